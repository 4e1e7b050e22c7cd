theorem dX0_init_0 : decode cX0_init 0 = .ok (.aload_n 0, 1) := by decide +kernel
theorem dX0_init_1 : decode cX0_init 1 = .ok (.invokespecial 3, 3) := by decide +kernel
theorem dX0_init_4 : decode cX0_init 4 = .ok (.aload_n 0, 1) := by decide +kernel
theorem dX0_init_5 : decode cX0_init 5 = .ok (.iload_n 1, 1) := by decide +kernel
theorem dX0_init_6 : decode cX0_init 6 = .ok (.putfield 9, 3) := by decide +kernel
theorem dX0_init_9 : decode cX0_init 9 = .ok (.aload_n 0, 1) := by decide +kernel
theorem dX0_init_10 : decode cX0_init 10 = .ok (.iload_n 2, 1) := by decide +kernel
theorem dX0_init_11 : decode cX0_init 11 = .ok (.putfield 15, 3) := by decide +kernel
theorem dX0_init_14 : decode cX0_init 14 = .ok (.return_, 1) := by decide +kernel
theorem dX0_number_0 : decode cX0_number 0 = .ok (.aload_n 0, 1) := by decide +kernel
theorem dX0_number_1 : decode cX0_number 1 = .ok (.getfield 9, 3) := by decide +kernel
theorem dX0_number_4 : decode cX0_number 4 = .ok (.ireturn, 1) := by decide +kernel
theorem dX0_v_0 : decode cX0_v 0 = .ok (.aload_n 0, 1) := by decide +kernel
theorem dX0_v_1 : decode cX0_v 1 = .ok (.getfield 15, 3) := by decide +kernel
theorem dX0_v_4 : decode cX0_v 4 = .ok (.ireturn, 1) := by decide +kernel
theorem dX0_kind_0 : decode cX0_kind 0 = .ok (.iconst 0, 1) := by decide +kernel
theorem dX0_kind_1 : decode cX0_kind 1 = .ok (.ireturn, 1) := by decide +kernel
theorem dX0_pick_0 : decode cX0_pick 0 = .ok (.bipush (-5), 2) := by decide +kernel
theorem dX0_pick_2 : decode cX0_pick 2 = .ok (.istore 6, 2) := by decide +kernel
theorem dX0_pick_4 : decode cX0_pick 4 = .ok (.iconst (-1), 1) := by decide +kernel
theorem dX0_pick_5 : decode cX0_pick 5 = .ok (.istore 7, 2) := by decide +kernel
theorem dX0_pick_7 : decode cX0_pick 7 = .ok (.iload 4, 2) := by decide +kernel
theorem dX0_pick_9 : decode cX0_pick 9 = .ok (.iconst 1, 1) := by decide +kernel
theorem dX0_pick_10 : decode cX0_pick 10 = .ok (.isub, 1) := by decide +kernel
theorem dX0_pick_11 : decode cX0_pick 11 = .ok (.istore 8, 2) := by decide +kernel
theorem dX0_pick_13 : decode cX0_pick 13 = .ok (.iload 8, 2) := by decide +kernel
theorem dX0_pick_15 : decode cX0_pick 15 = .ok (.ifCond .lt 51, 3) := by decide +kernel
theorem dX0_pick_18 : decode cX0_pick 18 = .ok (.aload_n 1, 1) := by decide +kernel
theorem dX0_pick_19 : decode cX0_pick 19 = .ok (.aload_n 3, 1) := by decide +kernel
theorem dX0_pick_20 : decode cX0_pick 20 = .ok (.iload 4, 2) := by decide +kernel
theorem dX0_pick_22 : decode cX0_pick 22 = .ok (.iaload, 1) := by decide +kernel
theorem dX0_pick_23 : decode cX0_pick 23 = .ok (.aaload, 1) := by decide +kernel
theorem dX0_pick_24 : decode cX0_pick 24 = .ok (.aload_n 3, 1) := by decide +kernel
theorem dX0_pick_25 : decode cX0_pick 25 = .ok (.iload 8, 2) := by decide +kernel
theorem dX0_pick_27 : decode cX0_pick 27 = .ok (.iaload, 1) := by decide +kernel
theorem dX0_pick_28 : decode cX0_pick 28 = .ok (.iaload, 1) := by decide +kernel
theorem dX0_pick_29 : decode cX0_pick 29 = .ok (.istore 9, 2) := by decide +kernel
theorem dX0_pick_31 : decode cX0_pick 31 = .ok (.iload 5, 2) := by decide +kernel
theorem dX0_pick_33 : decode cX0_pick 33 = .ok (.aload_n 3, 1) := by decide +kernel
theorem dX0_pick_34 : decode cX0_pick 34 = .ok (.iload 8, 2) := by decide +kernel
theorem dX0_pick_36 : decode cX0_pick 36 = .ok (.iaload, 1) := by decide +kernel
theorem dX0_pick_37 : decode cX0_pick 37 = .ok (.invokestatic 18, 3) := by decide +kernel
theorem dX0_pick_40 : decode cX0_pick 40 = .ok (.ifCond .eq 20, 3) := by decide +kernel
theorem dX0_pick_43 : decode cX0_pick 43 = .ok (.iload 9, 2) := by decide +kernel
theorem dX0_pick_45 : decode cX0_pick 45 = .ok (.iload 7, 2) := by decide +kernel
theorem dX0_pick_47 : decode cX0_pick 47 = .ok (.if_icmp .le 13, 3) := by decide +kernel
theorem dX0_pick_50 : decode cX0_pick 50 = .ok (.iload 9, 2) := by decide +kernel
theorem dX0_pick_52 : decode cX0_pick 52 = .ok (.istore 7, 2) := by decide +kernel
theorem dX0_pick_54 : decode cX0_pick 54 = .ok (.aload_n 3, 1) := by decide +kernel
theorem dX0_pick_55 : decode cX0_pick 55 = .ok (.iload 8, 2) := by decide +kernel
theorem dX0_pick_57 : decode cX0_pick 57 = .ok (.iaload, 1) := by decide +kernel
theorem dX0_pick_58 : decode cX0_pick 58 = .ok (.istore 6, 2) := by decide +kernel
theorem dX0_pick_60 : decode cX0_pick 60 = .ok (.iinc 8 (-1), 3) := by decide +kernel
theorem dX0_pick_63 : decode cX0_pick 63 = .ok (.goto (-50), 3) := by decide +kernel
theorem dX0_pick_66 : decode cX0_pick 66 = .ok (.iload 6, 2) := by decide +kernel
theorem dX0_pick_68 : decode cX0_pick 68 = .ok (.ireturn, 1) := by decide +kernel
theorem dX0_asking_0 : decode cX0_asking 0 = .ok (.aload_n 2, 1) := by decide +kernel
theorem dX0_asking_1 : decode cX0_asking 1 = .ok (.iconst 1, 1) := by decide +kernel
theorem dX0_asking_2 : decode cX0_asking 2 = .ok (.invokestatic 22, 3) := by decide +kernel
theorem dX0_asking_5 : decode cX0_asking 5 = .ok (.iload_n 1, 1) := by decide +kernel
theorem dX0_asking_6 : decode cX0_asking 6 = .ok (.aload_n 0, 1) := by decide +kernel
theorem dX0_asking_7 : decode cX0_asking 7 = .ok (.getfield 9, 3) := by decide +kernel
theorem dX0_asking_10 : decode cX0_asking 10 = .ok (.iadd, 1) := by decide +kernel
theorem dX0_asking_11 : decode cX0_asking 11 = .ok (.ireturn, 1) := by decide +kernel
theorem dX0_taking_0 : decode cX0_taking 0 = .ok (.aload_n 2, 1) := by decide +kernel
theorem dX0_taking_1 : decode cX0_taking 1 = .ok (.iconst 2, 1) := by decide +kernel
theorem dX0_taking_2 : decode cX0_taking 2 = .ok (.invokestatic 22, 3) := by decide +kernel
theorem dX0_taking_5 : decode cX0_taking 5 = .ok (.aload_n 0, 1) := by decide +kernel
theorem dX0_taking_6 : decode cX0_taking 6 = .ok (.iload_n 1, 1) := by decide +kernel
theorem dX0_taking_7 : decode cX0_taking 7 = .ok (.aload_n 2, 1) := by decide +kernel
theorem dX0_taking_8 : decode cX0_taking 8 = .ok (.invokevirtual 26, 3) := by decide +kernel
theorem dX0_taking_11 : decode cX0_taking 11 = .ok (.aload_n 0, 1) := by decide +kernel
theorem dX0_taking_12 : decode cX0_taking 12 = .ok (.getfield 15, 3) := by decide +kernel
theorem dX0_taking_15 : decode cX0_taking 15 = .ok (.isub, 1) := by decide +kernel
theorem dX0_taking_16 : decode cX0_taking 16 = .ok (.ireturn, 1) := by decide +kernel
theorem dX0_waiting_0 : decode cX0_waiting 0 = .ok (.aload_n 2, 1) := by decide +kernel
theorem dX0_waiting_1 : decode cX0_waiting 1 = .ok (.iconst 3, 1) := by decide +kernel
theorem dX0_waiting_2 : decode cX0_waiting 2 = .ok (.invokestatic 22, 3) := by decide +kernel
theorem dX0_waiting_5 : decode cX0_waiting 5 = .ok (.aload_n 0, 1) := by decide +kernel
theorem dX0_waiting_6 : decode cX0_waiting 6 = .ok (.iload_n 1, 1) := by decide +kernel
theorem dX0_waiting_7 : decode cX0_waiting 7 = .ok (.aload_n 2, 1) := by decide +kernel
theorem dX0_waiting_8 : decode cX0_waiting 8 = .ok (.invokevirtual 30, 3) := by decide +kernel
theorem dX0_waiting_11 : decode cX0_waiting 11 = .ok (.iconst 2, 1) := by decide +kernel
theorem dX0_waiting_12 : decode cX0_waiting 12 = .ok (.imul, 1) := by decide +kernel
theorem dX0_waiting_13 : decode cX0_waiting 13 = .ok (.ireturn, 1) := by decide +kernel
theorem dX0_note_0 : decode cX0_note 0 = .ok (.aload_n 0, 1) := by decide +kernel
theorem dX0_note_1 : decode cX0_note 1 = .ok (.iconst 0, 1) := by decide +kernel
theorem dX0_note_2 : decode cX0_note 2 = .ok (.dup2, 1) := by decide +kernel
theorem dX0_note_3 : decode cX0_note 3 = .ok (.iaload, 1) := by decide +kernel
theorem dX0_note_4 : decode cX0_note 4 = .ok (.iconst 1, 1) := by decide +kernel
theorem dX0_note_5 : decode cX0_note 5 = .ok (.iadd, 1) := by decide +kernel
theorem dX0_note_6 : decode cX0_note 6 = .ok (.iastore, 1) := by decide +kernel
theorem dX0_note_7 : decode cX0_note 7 = .ok (.aload_n 0, 1) := by decide +kernel
theorem dX0_note_8 : decode cX0_note 8 = .ok (.iconst 0, 1) := by decide +kernel
theorem dX0_note_9 : decode cX0_note 9 = .ok (.iaload, 1) := by decide +kernel
theorem dX0_note_10 : decode cX0_note 10 = .ok (.aload_n 0, 1) := by decide +kernel
theorem dX0_note_11 : decode cX0_note 11 = .ok (.arraylength, 1) := by decide +kernel
theorem dX0_note_12 : decode cX0_note 12 = .ok (.if_icmp .ge 9, 3) := by decide +kernel
theorem dX0_note_15 : decode cX0_note 15 = .ok (.aload_n 0, 1) := by decide +kernel
theorem dX0_note_16 : decode cX0_note 16 = .ok (.aload_n 0, 1) := by decide +kernel
theorem dX0_note_17 : decode cX0_note 17 = .ok (.iconst 0, 1) := by decide +kernel
theorem dX0_note_18 : decode cX0_note 18 = .ok (.iaload, 1) := by decide +kernel
theorem dX0_note_19 : decode cX0_note 19 = .ok (.iload_n 1, 1) := by decide +kernel
theorem dX0_note_20 : decode cX0_note 20 = .ok (.iastore, 1) := by decide +kernel
theorem dX0_note_21 : decode cX0_note 21 = .ok (.return_, 1) := by decide +kernel
theorem dX1_init_0 : decode cX1_init 0 = .ok (.aload_n 0, 1) := by decide +kernel
theorem dX1_init_1 : decode cX1_init 1 = .ok (.iload_n 1, 1) := by decide +kernel
theorem dX1_init_2 : decode cX1_init 2 = .ok (.iload_n 2, 1) := by decide +kernel
theorem dX1_init_3 : decode cX1_init 3 = .ok (.invokespecial 3, 3) := by decide +kernel
theorem dX1_init_6 : decode cX1_init 6 = .ok (.return_, 1) := by decide +kernel
theorem dX1_kind_0 : decode cX1_kind 0 = .ok (.iconst 4, 1) := by decide +kernel
theorem dX1_kind_1 : decode cX1_kind 1 = .ok (.ireturn, 1) := by decide +kernel
theorem dX1_pick_0 : decode cX1_pick 0 = .ok (.bipush (-5), 2) := by decide +kernel
theorem dX1_pick_2 : decode cX1_pick 2 = .ok (.istore 6, 2) := by decide +kernel
theorem dX1_pick_4 : decode cX1_pick 4 = .ok (.iconst (-1), 1) := by decide +kernel
theorem dX1_pick_5 : decode cX1_pick 5 = .ok (.istore 7, 2) := by decide +kernel
theorem dX1_pick_7 : decode cX1_pick 7 = .ok (.iconst 0, 1) := by decide +kernel
theorem dX1_pick_8 : decode cX1_pick 8 = .ok (.istore 8, 2) := by decide +kernel
theorem dX1_pick_10 : decode cX1_pick 10 = .ok (.iload 8, 2) := by decide +kernel
theorem dX1_pick_12 : decode cX1_pick 12 = .ok (.iload 4, 2) := by decide +kernel
theorem dX1_pick_14 : decode cX1_pick 14 = .ok (.if_icmp .ge 61, 3) := by decide +kernel
theorem dX1_pick_17 : decode cX1_pick 17 = .ok (.aload_n 2, 1) := by decide +kernel
theorem dX1_pick_18 : decode cX1_pick 18 = .ok (.iload 4, 2) := by decide +kernel
theorem dX1_pick_20 : decode cX1_pick 20 = .ok (.iload 8, 2) := by decide +kernel
theorem dX1_pick_22 : decode cX1_pick 22 = .ok (.isub, 1) := by decide +kernel
theorem dX1_pick_23 : decode cX1_pick 23 = .ok (.invokevirtual 11, 3) := by decide +kernel
theorem dX1_pick_26 : decode cX1_pick 26 = .ok (.aload_n 1, 1) := by decide +kernel
theorem dX1_pick_27 : decode cX1_pick 27 = .ok (.aload_n 3, 1) := by decide +kernel
theorem dX1_pick_28 : decode cX1_pick 28 = .ok (.iload 4, 2) := by decide +kernel
theorem dX1_pick_30 : decode cX1_pick 30 = .ok (.iaload, 1) := by decide +kernel
theorem dX1_pick_31 : decode cX1_pick 31 = .ok (.aaload, 1) := by decide +kernel
theorem dX1_pick_32 : decode cX1_pick 32 = .ok (.aload_n 3, 1) := by decide +kernel
theorem dX1_pick_33 : decode cX1_pick 33 = .ok (.iload 8, 2) := by decide +kernel
theorem dX1_pick_35 : decode cX1_pick 35 = .ok (.iaload, 1) := by decide +kernel
theorem dX1_pick_36 : decode cX1_pick 36 = .ok (.iaload, 1) := by decide +kernel
theorem dX1_pick_37 : decode cX1_pick 37 = .ok (.imul, 1) := by decide +kernel
theorem dX1_pick_38 : decode cX1_pick 38 = .ok (.istore 9, 2) := by decide +kernel
theorem dX1_pick_40 : decode cX1_pick 40 = .ok (.iload 5, 2) := by decide +kernel
theorem dX1_pick_42 : decode cX1_pick 42 = .ok (.aload_n 3, 1) := by decide +kernel
theorem dX1_pick_43 : decode cX1_pick 43 = .ok (.iload 8, 2) := by decide +kernel
theorem dX1_pick_45 : decode cX1_pick 45 = .ok (.iaload, 1) := by decide +kernel
theorem dX1_pick_46 : decode cX1_pick 46 = .ok (.invokestatic 17, 3) := by decide +kernel
theorem dX1_pick_49 : decode cX1_pick 49 = .ok (.ifCond .eq 20, 3) := by decide +kernel
theorem dX1_pick_52 : decode cX1_pick 52 = .ok (.iload 9, 2) := by decide +kernel
theorem dX1_pick_54 : decode cX1_pick 54 = .ok (.iload 7, 2) := by decide +kernel
theorem dX1_pick_56 : decode cX1_pick 56 = .ok (.if_icmp .le 13, 3) := by decide +kernel
theorem dX1_pick_59 : decode cX1_pick 59 = .ok (.iload 9, 2) := by decide +kernel
theorem dX1_pick_61 : decode cX1_pick 61 = .ok (.istore 7, 2) := by decide +kernel
theorem dX1_pick_63 : decode cX1_pick 63 = .ok (.aload_n 3, 1) := by decide +kernel
theorem dX1_pick_64 : decode cX1_pick 64 = .ok (.iload 8, 2) := by decide +kernel
theorem dX1_pick_66 : decode cX1_pick 66 = .ok (.iaload, 1) := by decide +kernel
theorem dX1_pick_67 : decode cX1_pick 67 = .ok (.istore 6, 2) := by decide +kernel
theorem dX1_pick_69 : decode cX1_pick 69 = .ok (.iinc 8 1, 3) := by decide +kernel
theorem dX1_pick_72 : decode cX1_pick 72 = .ok (.goto (-62), 3) := by decide +kernel
theorem dX1_pick_75 : decode cX1_pick 75 = .ok (.iload 6, 2) := by decide +kernel
theorem dX1_pick_77 : decode cX1_pick 77 = .ok (.ireturn, 1) := by decide +kernel
theorem dX1_asking_0 : decode cX1_asking 0 = .ok (.aload_n 2, 1) := by decide +kernel
theorem dX1_asking_1 : decode cX1_asking 1 = .ok (.bipush 51, 2) := by decide +kernel
theorem dX1_asking_3 : decode cX1_asking 3 = .ok (.invokestatic 21, 3) := by decide +kernel
theorem dX1_asking_6 : decode cX1_asking 6 = .ok (.aload_n 0, 1) := by decide +kernel
theorem dX1_asking_7 : decode cX1_asking 7 = .ok (.iload_n 1, 1) := by decide +kernel
theorem dX1_asking_8 : decode cX1_asking 8 = .ok (.aload_n 2, 1) := by decide +kernel
theorem dX1_asking_9 : decode cX1_asking 9 = .ok (.invokespecial 25, 3) := by decide +kernel
theorem dX1_asking_12 : decode cX1_asking 12 = .ok (.aload_n 0, 1) := by decide +kernel
theorem dX1_asking_13 : decode cX1_asking 13 = .ok (.invokevirtual 29, 3) := by decide +kernel
theorem dX1_asking_16 : decode cX1_asking 16 = .ok (.ixor, 1) := by decide +kernel
theorem dX1_asking_17 : decode cX1_asking 17 = .ok (.ireturn, 1) := by decide +kernel
theorem dX2_init_0 : decode cX2_init 0 = .ok (.aload_n 0, 1) := by decide +kernel
theorem dX2_init_1 : decode cX2_init 1 = .ok (.invokespecial 1, 3) := by decide +kernel
theorem dX2_init_4 : decode cX2_init 4 = .ok (.aload_n 0, 1) := by decide +kernel
theorem dX2_init_5 : decode cX2_init 5 = .ok (.iload_n 1, 1) := by decide +kernel
theorem dX2_init_6 : decode cX2_init 6 = .ok (.putfield 7, 3) := by decide +kernel
theorem dX2_init_9 : decode cX2_init 9 = .ok (.aload_n 0, 1) := by decide +kernel
theorem dX2_init_10 : decode cX2_init 10 = .ok (.iload_n 2, 1) := by decide +kernel
theorem dX2_init_11 : decode cX2_init 11 = .ok (.putfield 13, 3) := by decide +kernel
theorem dX2_init_14 : decode cX2_init 14 = .ok (.aload_n 0, 1) := by decide +kernel
theorem dX2_init_15 : decode cX2_init 15 = .ok (.aload_n 3, 1) := by decide +kernel
theorem dX2_init_16 : decode cX2_init 16 = .ok (.putfield 16, 3) := by decide +kernel
theorem dX2_init_19 : decode cX2_init 19 = .ok (.return_, 1) := by decide +kernel
theorem dX2_testOf_0 : decode cX2_testOf 0 = .ok (.iload_n 0, 1) := by decide +kernel
theorem dX2_testOf_1 : decode cX2_testOf 1 = .ok (.iconst 3, 1) := by decide +kernel
theorem dX2_testOf_2 : decode cX2_testOf 2 = .ok (.imul, 1) := by decide +kernel
theorem dX2_testOf_3 : decode cX2_testOf 3 = .ok (.iload_n 1, 1) := by decide +kernel
theorem dX2_testOf_4 : decode cX2_testOf 4 = .ok (.iadd, 1) := by decide +kernel
theorem dX2_testOf_5 : decode cX2_testOf 5 = .ok (.bipush 100, 2) := by decide +kernel
theorem dX2_testOf_7 : decode cX2_testOf 7 = .ok (.imul, 1) := by decide +kernel
theorem dX2_testOf_8 : decode cX2_testOf 8 = .ok (.iload_n 2, 1) := by decide +kernel
theorem dX2_testOf_9 : decode cX2_testOf 9 = .ok (.iadd, 1) := by decide +kernel
theorem dX2_testOf_10 : decode cX2_testOf 10 = .ok (.ireturn, 1) := by decide +kernel
theorem dX2_lets_0 : decode cX2_lets 0 = .ok (.iconst 0, 1) := by decide +kernel
theorem dX2_lets_1 : decode cX2_lets 1 = .ok (.istore_n 2, 1) := by decide +kernel
theorem dX2_lets_2 : decode cX2_lets 2 = .ok (.iconst 0, 1) := by decide +kernel
theorem dX2_lets_3 : decode cX2_lets 3 = .ok (.istore_n 3, 1) := by decide +kernel
theorem dX2_lets_4 : decode cX2_lets 4 = .ok (.iconst 0, 1) := by decide +kernel
theorem dX2_lets_5 : decode cX2_lets 5 = .ok (.istore 4, 2) := by decide +kernel
theorem dX2_lets_7 : decode cX2_lets 7 = .ok (.iload 4, 2) := by decide +kernel
theorem dX2_lets_9 : decode cX2_lets 9 = .ok (.aload_n 0, 1) := by decide +kernel
theorem dX2_lets_10 : decode cX2_lets 10 = .ok (.getfield 16, 3) := by decide +kernel
theorem dX2_lets_13 : decode cX2_lets 13 = .ok (.arraylength, 1) := by decide +kernel
theorem dX2_lets_14 : decode cX2_lets 14 = .ok (.if_icmp .ge 148, 3) := by decide +kernel
theorem dX2_lets_17 : decode cX2_lets 17 = .ok (.iload_n 2, 1) := by decide +kernel
theorem dX2_lets_18 : decode cX2_lets 18 = .ok (.iconst 1, 1) := by decide +kernel
theorem dX2_lets_19 : decode cX2_lets 19 = .ok (.iand, 1) := by decide +kernel
theorem dX2_lets_20 : decode cX2_lets 20 = .ok (.istore 5, 2) := by decide +kernel
theorem dX2_lets_22 : decode cX2_lets 22 = .ok (.aload_n 0, 1) := by decide +kernel
theorem dX2_lets_23 : decode cX2_lets 23 = .ok (.getfield 16, 3) := by decide +kernel
theorem dX2_lets_26 : decode cX2_lets 26 = .ok (.iload 4, 2) := by decide +kernel
theorem dX2_lets_28 : decode cX2_lets 28 = .ok (.iaload, 1) := by decide +kernel
theorem dX2_lets_29 : decode cX2_lets 29 = .ok (.tableswitch 103 (-5) (-1) #[88, 65, 55, 42, 35], 35) := by decide +kernel
theorem dX2_lets_64 : decode cX2_lets 64 = .ok (.iload_n 2, 1) := by decide +kernel
theorem dX2_lets_65 : decode cX2_lets 65 = .ok (.iconst 1, 1) := by decide +kernel
theorem dX2_lets_66 : decode cX2_lets 66 = .ok (.ixor, 1) := by decide +kernel
theorem dX2_lets_67 : decode cX2_lets 67 = .ok (.istore_n 2, 1) := by decide +kernel
theorem dX2_lets_68 : decode cX2_lets 68 = .ok (.goto 88, 3) := by decide +kernel
theorem dX2_lets_71 : decode cX2_lets 71 = .ok (.iload_n 2, 1) := by decide +kernel
theorem dX2_lets_72 : decode cX2_lets 72 = .ok (.iconst 1, 1) := by decide +kernel
theorem dX2_lets_73 : decode cX2_lets 73 = .ok (.ishr, 1) := by decide +kernel
theorem dX2_lets_74 : decode cX2_lets 74 = .ok (.bipush (-2), 2) := by decide +kernel
theorem dX2_lets_76 : decode cX2_lets 76 = .ok (.iload 5, 2) := by decide +kernel
theorem dX2_lets_78 : decode cX2_lets 78 = .ok (.ior, 1) := by decide +kernel
theorem dX2_lets_79 : decode cX2_lets 79 = .ok (.iand, 1) := by decide +kernel
theorem dX2_lets_80 : decode cX2_lets 80 = .ok (.istore_n 2, 1) := by decide +kernel
theorem dX2_lets_81 : decode cX2_lets 81 = .ok (.goto 75, 3) := by decide +kernel
theorem dX2_lets_84 : decode cX2_lets 84 = .ok (.iload_n 2, 1) := by decide +kernel
theorem dX2_lets_85 : decode cX2_lets 85 = .ok (.iconst 1, 1) := by decide +kernel
theorem dX2_lets_86 : decode cX2_lets 86 = .ok (.ishr, 1) := by decide +kernel
theorem dX2_lets_87 : decode cX2_lets 87 = .ok (.iload 5, 2) := by decide +kernel
theorem dX2_lets_89 : decode cX2_lets 89 = .ok (.ior, 1) := by decide +kernel
theorem dX2_lets_90 : decode cX2_lets 90 = .ok (.istore_n 2, 1) := by decide +kernel
theorem dX2_lets_91 : decode cX2_lets 91 = .ok (.goto 65, 3) := by decide +kernel
theorem dX2_lets_94 : decode cX2_lets 94 = .ok (.iload_n 3, 1) := by decide +kernel
theorem dX2_lets_95 : decode cX2_lets 95 = .ok (.ifCond .ne 9, 3) := by decide +kernel
theorem dX2_lets_98 : decode cX2_lets 98 = .ok (.iload 5, 2) := by decide +kernel
theorem dX2_lets_100 : decode cX2_lets 100 = .ok (.iconst 1, 1) := by decide +kernel
theorem dX2_lets_101 : decode cX2_lets 101 = .ok (.if_icmp .ne 7, 3) := by decide +kernel
theorem dX2_lets_104 : decode cX2_lets 104 = .ok (.iconst 1, 1) := by decide +kernel
theorem dX2_lets_105 : decode cX2_lets 105 = .ok (.goto 4, 3) := by decide +kernel
theorem dX2_lets_108 : decode cX2_lets 108 = .ok (.iconst 0, 1) := by decide +kernel
theorem dX2_lets_109 : decode cX2_lets 109 = .ok (.istore_n 3, 1) := by decide +kernel
theorem dX2_lets_110 : decode cX2_lets 110 = .ok (.iload_n 2, 1) := by decide +kernel
theorem dX2_lets_111 : decode cX2_lets 111 = .ok (.iconst 1, 1) := by decide +kernel
theorem dX2_lets_112 : decode cX2_lets 112 = .ok (.ishr, 1) := by decide +kernel
theorem dX2_lets_113 : decode cX2_lets 113 = .ok (.istore_n 2, 1) := by decide +kernel
theorem dX2_lets_114 : decode cX2_lets 114 = .ok (.goto 42, 3) := by decide +kernel
theorem dX2_lets_117 : decode cX2_lets 117 = .ok (.iload 5, 2) := by decide +kernel
theorem dX2_lets_119 : decode cX2_lets 119 = .ok (.iconst 1, 1) := by decide +kernel
theorem dX2_lets_120 : decode cX2_lets 120 = .ok (.if_icmp .ne 5, 3) := by decide +kernel
theorem dX2_lets_123 : decode cX2_lets 123 = .ok (.iconst 1, 1) := by decide +kernel
theorem dX2_lets_124 : decode cX2_lets 124 = .ok (.ireturn, 1) := by decide +kernel
theorem dX2_lets_125 : decode cX2_lets 125 = .ok (.iload_n 2, 1) := by decide +kernel
theorem dX2_lets_126 : decode cX2_lets 126 = .ok (.iconst 1, 1) := by decide +kernel
theorem dX2_lets_127 : decode cX2_lets 127 = .ok (.ishr, 1) := by decide +kernel
theorem dX2_lets_128 : decode cX2_lets 128 = .ok (.istore_n 2, 1) := by decide +kernel
theorem dX2_lets_129 : decode cX2_lets 129 = .ok (.goto 27, 3) := by decide +kernel
theorem dX2_lets_132 : decode cX2_lets 132 = .ok (.iload_n 2, 1) := by decide +kernel
theorem dX2_lets_133 : decode cX2_lets 133 = .ok (.iconst 1, 1) := by decide +kernel
theorem dX2_lets_134 : decode cX2_lets 134 = .ok (.ishl, 1) := by decide +kernel
theorem dX2_lets_135 : decode cX2_lets 135 = .ok (.aload_n 0, 1) := by decide +kernel
theorem dX2_lets_136 : decode cX2_lets 136 = .ok (.getfield 16, 3) := by decide +kernel
theorem dX2_lets_139 : decode cX2_lets 139 = .ok (.iload 4, 2) := by decide +kernel
theorem dX2_lets_141 : decode cX2_lets 141 = .ok (.iaload, 1) := by decide +kernel
theorem dX2_lets_142 : decode cX2_lets 142 = .ok (.aload_n 1, 1) := by decide +kernel
theorem dX2_lets_143 : decode cX2_lets 143 = .ok (.invokestatic 20, 3) := by decide +kernel
theorem dX2_lets_146 : decode cX2_lets 146 = .ok (.ifCond .eq 7, 3) := by decide +kernel
theorem dX2_lets_149 : decode cX2_lets 149 = .ok (.iconst 1, 1) := by decide +kernel
theorem dX2_lets_150 : decode cX2_lets 150 = .ok (.goto 4, 3) := by decide +kernel
theorem dX2_lets_153 : decode cX2_lets 153 = .ok (.iconst 0, 1) := by decide +kernel
theorem dX2_lets_154 : decode cX2_lets 154 = .ok (.ior, 1) := by decide +kernel
theorem dX2_lets_155 : decode cX2_lets 155 = .ok (.istore_n 2, 1) := by decide +kernel
theorem dX2_lets_156 : decode cX2_lets 156 = .ok (.iinc 4 1, 3) := by decide +kernel
theorem dX2_lets_159 : decode cX2_lets 159 = .ok (.goto (-152), 3) := by decide +kernel
theorem dX2_lets_162 : decode cX2_lets 162 = .ok (.iload_n 3, 1) := by decide +kernel
theorem dX2_lets_163 : decode cX2_lets 163 = .ok (.ifCond .ne 7, 3) := by decide +kernel
theorem dX2_lets_166 : decode cX2_lets 166 = .ok (.iconst 1, 1) := by decide +kernel
theorem dX2_lets_167 : decode cX2_lets 167 = .ok (.goto 4, 3) := by decide +kernel
theorem dX2_lets_170 : decode cX2_lets 170 = .ok (.iconst 0, 1) := by decide +kernel
theorem dX2_lets_171 : decode cX2_lets 171 = .ok (.ireturn, 1) := by decide +kernel
theorem dX2_isTrue_0 : decode cX2_isTrue 0 = .ok (.iload_n 0, 1) := by decide +kernel
theorem dX2_isTrue_1 : decode cX2_isTrue 1 = .ok (.sipush 300, 3) := by decide +kernel
theorem dX2_isTrue_4 : decode cX2_isTrue 4 = .ok (.idiv, 1) := by decide +kernel
theorem dX2_isTrue_5 : decode cX2_isTrue 5 = .ok (.istore_n 2, 1) := by decide +kernel
theorem dX2_isTrue_6 : decode cX2_isTrue 6 = .ok (.iload_n 2, 1) := by decide +kernel
theorem dX2_isTrue_7 : decode cX2_isTrue 7 = .ok (.ifCond .lt 9, 3) := by decide +kernel
theorem dX2_isTrue_10 : decode cX2_isTrue 10 = .ok (.iload_n 2, 1) := by decide +kernel
theorem dX2_isTrue_11 : decode cX2_isTrue 11 = .ok (.aload_n 1, 1) := by decide +kernel
theorem dX2_isTrue_12 : decode cX2_isTrue 12 = .ok (.arraylength, 1) := by decide +kernel
theorem dX2_isTrue_13 : decode cX2_isTrue 13 = .ok (.if_icmp .lt 5, 3) := by decide +kernel
theorem dX2_isTrue_16 : decode cX2_isTrue 16 = .ok (.iconst 0, 1) := by decide +kernel
theorem dX2_isTrue_17 : decode cX2_isTrue 17 = .ok (.ireturn, 1) := by decide +kernel
theorem dX2_isTrue_18 : decode cX2_isTrue 18 = .ok (.iload_n 0, 1) := by decide +kernel
theorem dX2_isTrue_19 : decode cX2_isTrue 19 = .ok (.bipush 100, 2) := by decide +kernel
theorem dX2_isTrue_21 : decode cX2_isTrue 21 = .ok (.irem, 1) := by decide +kernel
theorem dX2_isTrue_22 : decode cX2_isTrue 22 = .ok (.istore_n 3, 1) := by decide +kernel
theorem dX2_isTrue_23 : decode cX2_isTrue 23 = .ok (.iload_n 0, 1) := by decide +kernel
theorem dX2_isTrue_24 : decode cX2_isTrue 24 = .ok (.bipush 100, 2) := by decide +kernel
theorem dX2_isTrue_26 : decode cX2_isTrue 26 = .ok (.idiv, 1) := by decide +kernel
theorem dX2_isTrue_27 : decode cX2_isTrue 27 = .ok (.iconst 3, 1) := by decide +kernel
theorem dX2_isTrue_28 : decode cX2_isTrue 28 = .ok (.irem, 1) := by decide +kernel
theorem dX2_isTrue_29 : decode cX2_isTrue 29 = .ok (.lookupswitch 53 #[(0, 27), (1, 40)], 27) := by decide +kernel
theorem dX2_isTrue_56 : decode cX2_isTrue 56 = .ok (.aload_n 1, 1) := by decide +kernel
theorem dX2_isTrue_57 : decode cX2_isTrue 57 = .ok (.iload_n 2, 1) := by decide +kernel
theorem dX2_isTrue_58 : decode cX2_isTrue 58 = .ok (.iaload, 1) := by decide +kernel
theorem dX2_isTrue_59 : decode cX2_isTrue 59 = .ok (.iload_n 3, 1) := by decide +kernel
theorem dX2_isTrue_60 : decode cX2_isTrue 60 = .ok (.if_icmp .ge 7, 3) := by decide +kernel
theorem dX2_isTrue_63 : decode cX2_isTrue 63 = .ok (.iconst 1, 1) := by decide +kernel
theorem dX2_isTrue_64 : decode cX2_isTrue 64 = .ok (.goto 4, 3) := by decide +kernel
theorem dX2_isTrue_67 : decode cX2_isTrue 67 = .ok (.iconst 0, 1) := by decide +kernel
theorem dX2_isTrue_68 : decode cX2_isTrue 68 = .ok (.ireturn, 1) := by decide +kernel
theorem dX2_isTrue_69 : decode cX2_isTrue 69 = .ok (.aload_n 1, 1) := by decide +kernel
theorem dX2_isTrue_70 : decode cX2_isTrue 70 = .ok (.iload_n 2, 1) := by decide +kernel
theorem dX2_isTrue_71 : decode cX2_isTrue 71 = .ok (.iaload, 1) := by decide +kernel
theorem dX2_isTrue_72 : decode cX2_isTrue 72 = .ok (.iload_n 3, 1) := by decide +kernel
theorem dX2_isTrue_73 : decode cX2_isTrue 73 = .ok (.if_icmp .ne 7, 3) := by decide +kernel
theorem dX2_isTrue_76 : decode cX2_isTrue 76 = .ok (.iconst 1, 1) := by decide +kernel
theorem dX2_isTrue_77 : decode cX2_isTrue 77 = .ok (.goto 4, 3) := by decide +kernel
theorem dX2_isTrue_80 : decode cX2_isTrue 80 = .ok (.iconst 0, 1) := by decide +kernel
theorem dX2_isTrue_81 : decode cX2_isTrue 81 = .ok (.ireturn, 1) := by decide +kernel
theorem dX2_isTrue_82 : decode cX2_isTrue 82 = .ok (.aload_n 1, 1) := by decide +kernel
theorem dX2_isTrue_83 : decode cX2_isTrue 83 = .ok (.iload_n 2, 1) := by decide +kernel
theorem dX2_isTrue_84 : decode cX2_isTrue 84 = .ok (.iaload, 1) := by decide +kernel
theorem dX2_isTrue_85 : decode cX2_isTrue 85 = .ok (.iload_n 3, 1) := by decide +kernel
theorem dX2_isTrue_86 : decode cX2_isTrue 86 = .ok (.if_icmp .le 7, 3) := by decide +kernel
theorem dX2_isTrue_89 : decode cX2_isTrue 89 = .ok (.iconst 1, 1) := by decide +kernel
theorem dX2_isTrue_90 : decode cX2_isTrue 90 = .ok (.goto 4, 3) := by decide +kernel
theorem dX2_isTrue_93 : decode cX2_isTrue 93 = .ok (.iconst 0, 1) := by decide +kernel
theorem dX2_isTrue_94 : decode cX2_isTrue 94 = .ok (.ireturn, 1) := by decide +kernel
theorem dX2_worth_0 : decode cX2_worth 0 = .ok (.aload_n 0, 1) := by decide +kernel
theorem dX2_worth_1 : decode cX2_worth 1 = .ok (.getfield 13, 3) := by decide +kernel
theorem dX2_worth_4 : decode cX2_worth 4 = .ok (.iconst 2, 1) := by decide +kernel
theorem dX2_worth_5 : decode cX2_worth 5 = .ok (.if_icmp .ne 7, 3) := by decide +kernel
theorem dX2_worth_8 : decode cX2_worth 8 = .ok (.iconst 1, 1) := by decide +kernel
theorem dX2_worth_9 : decode cX2_worth 9 = .ok (.goto 4, 3) := by decide +kernel
theorem dX2_worth_12 : decode cX2_worth 12 = .ok (.iload_n 1, 1) := by decide +kernel
theorem dX2_worth_13 : decode cX2_worth 13 = .ok (.ireturn, 1) := by decide +kernel
theorem dX2_climb_0 : decode cX2_climb 0 = .ok (.aload_n 0, 1) := by decide +kernel
theorem dX2_climb_1 : decode cX2_climb 1 = .ok (.getfield 13, 3) := by decide +kernel
theorem dX2_climb_4 : decode cX2_climb 4 = .ok (.iconst 1, 1) := by decide +kernel
theorem dX2_climb_5 : decode cX2_climb 5 = .ok (.if_icmp .ne 12, 3) := by decide +kernel
theorem dX2_climb_8 : decode cX2_climb 8 = .ok (.aload_n 1, 1) := by decide +kernel
theorem dX2_climb_9 : decode cX2_climb 9 = .ok (.iload_n 2, 1) := by decide +kernel
theorem dX2_climb_10 : decode cX2_climb 10 = .ok (.iload_n 3, 1) := by decide +kernel
theorem dX2_climb_11 : decode cX2_climb 11 = .ok (.invokestatic 24, 3) := by decide +kernel
theorem dX2_climb_14 : decode cX2_climb 14 = .ok (.goto 17, 3) := by decide +kernel
theorem dX2_climb_17 : decode cX2_climb 17 = .ok (.aload_n 1, 1) := by decide +kernel
theorem dX2_climb_18 : decode cX2_climb 18 = .ok (.iload_n 2, 1) := by decide +kernel
theorem dX2_climb_19 : decode cX2_climb 19 = .ok (.iload_n 2, 1) := by decide +kernel
theorem dX2_climb_20 : decode cX2_climb 20 = .ok (.aload_n 0, 1) := by decide +kernel
theorem dX2_climb_21 : decode cX2_climb 21 = .ok (.iload_n 2, 1) := by decide +kernel
theorem dX2_climb_22 : decode cX2_climb 22 = .ok (.iload_n 3, 1) := by decide +kernel
theorem dX2_climb_23 : decode cX2_climb 23 = .ok (.isub, 1) := by decide +kernel
theorem dX2_climb_24 : decode cX2_climb 24 = .ok (.invokevirtual 30, 3) := by decide +kernel
theorem dX2_climb_27 : decode cX2_climb 27 = .ok (.isub, 1) := by decide +kernel
theorem dX2_climb_28 : decode cX2_climb 28 = .ok (.invokestatic 34, 3) := by decide +kernel
theorem dX2_climb_31 : decode cX2_climb 31 = .ok (.return_, 1) := by decide +kernel
theorem dX3_init_0 : decode cX3_init 0 = .ok (.aload_n 0, 1) := by decide +kernel
theorem dX3_init_1 : decode cX3_init 1 = .ok (.invokespecial 3, 3) := by decide +kernel
theorem dX3_init_4 : decode cX3_init 4 = .ok (.aload_n 0, 1) := by decide +kernel
theorem dX3_init_5 : decode cX3_init 5 = .ok (.bipush 120, 2) := by decide +kernel
theorem dX3_init_7 : decode cX3_init 7 = .ok (.newarray .int, 2) := by decide +kernel
theorem dX3_init_9 : decode cX3_init 9 = .ok (.putfield 9, 3) := by decide +kernel
theorem dX3_init_12 : decode cX3_init 12 = .ok (.aload_n 0, 1) := by decide +kernel
theorem dX3_init_13 : decode cX3_init 13 = .ok (.iconst 0, 1) := by decide +kernel
theorem dX3_init_14 : decode cX3_init 14 = .ok (.putfield 15, 3) := by decide +kernel
theorem dX3_init_17 : decode cX3_init 17 = .ok (.aload_n 0, 1) := by decide +kernel
theorem dX3_init_18 : decode cX3_init 18 = .ok (.iconst 0, 1) := by decide +kernel
theorem dX3_init_19 : decode cX3_init 19 = .ok (.newarray .byte, 2) := by decide +kernel
theorem dX3_init_21 : decode cX3_init 21 = .ok (.putfield 19, 3) := by decide +kernel
theorem dX3_init_24 : decode cX3_init 24 = .ok (.aload_n 0, 1) := by decide +kernel
theorem dX3_init_25 : decode cX3_init 25 = .ok (.iconst 0, 1) := by decide +kernel
theorem dX3_init_26 : decode cX3_init 26 = .ok (.putfield 23, 3) := by decide +kernel
theorem dX3_init_29 : decode cX3_init 29 = .ok (.aload_n 0, 1) := by decide +kernel
theorem dX3_init_30 : decode cX3_init 30 = .ok (.iconst 0, 1) := by decide +kernel
theorem dX3_init_31 : decode cX3_init 31 = .ok (.putfield 26, 3) := by decide +kernel
theorem dX3_init_34 : decode cX3_init 34 = .ok (.aload_n 0, 1) := by decide +kernel
theorem dX3_init_35 : decode cX3_init 35 = .ok (.iconst 0, 1) := by decide +kernel
theorem dX3_init_36 : decode cX3_init 36 = .ok (.putfield 29, 3) := by decide +kernel
theorem dX3_init_39 : decode cX3_init 39 = .ok (.aload_n 0, 1) := by decide +kernel
theorem dX3_init_40 : decode cX3_init 40 = .ok (.iconst 0, 1) := by decide +kernel
theorem dX3_init_41 : decode cX3_init 41 = .ok (.putfield 34, 3) := by decide +kernel
theorem dX3_init_44 : decode cX3_init 44 = .ok (.return_, 1) := by decide +kernel
theorem dX3_read_0 : decode cX3_read 0 = .ok (.aload_n 0, 1) := by decide +kernel
theorem dX3_read_1 : decode cX3_read 1 = .ok (.aload_n 1, 1) := by decide +kernel
theorem dX3_read_2 : decode cX3_read 2 = .ok (.putfield 19, 3) := by decide +kernel
theorem dX3_read_5 : decode cX3_read 5 = .ok (.aload_n 0, 1) := by decide +kernel
theorem dX3_read_6 : decode cX3_read 6 = .ok (.iload_n 2, 1) := by decide +kernel
theorem dX3_read_7 : decode cX3_read 7 = .ok (.putfield 23, 3) := by decide +kernel
theorem dX3_read_10 : decode cX3_read 10 = .ok (.aload_n 0, 1) := by decide +kernel
theorem dX3_read_11 : decode cX3_read 11 = .ok (.iconst 0, 1) := by decide +kernel
theorem dX3_read_12 : decode cX3_read 12 = .ok (.putfield 26, 3) := by decide +kernel
theorem dX3_read_15 : decode cX3_read 15 = .ok (.aload_n 0, 1) := by decide +kernel
theorem dX3_read_16 : decode cX3_read 16 = .ok (.iconst 0, 1) := by decide +kernel
theorem dX3_read_17 : decode cX3_read 17 = .ok (.putfield 15, 3) := by decide +kernel
theorem dX3_read_20 : decode cX3_read 20 = .ok (.aload_n 0, 1) := by decide +kernel
theorem dX3_read_21 : decode cX3_read 21 = .ok (.iconst 0, 1) := by decide +kernel
theorem dX3_read_22 : decode cX3_read 22 = .ok (.putfield 29, 3) := by decide +kernel
theorem dX3_read_25 : decode cX3_read 25 = .ok (.aload_n 0, 1) := by decide +kernel
theorem dX3_read_26 : decode cX3_read 26 = .ok (.iconst 0, 1) := by decide +kernel
theorem dX3_read_27 : decode cX3_read 27 = .ok (.putfield 34, 3) := by decide +kernel
theorem dX3_read_30 : decode cX3_read 30 = .ok (.iconst 1, 1) := by decide +kernel
theorem dX3_read_31 : decode cX3_read 31 = .ok (.istore_n 3, 1) := by decide +kernel
theorem dX3_read_32 : decode cX3_read 32 = .ok (.iload_n 3, 1) := by decide +kernel
theorem dX3_read_33 : decode cX3_read 33 = .ok (.bipush 8, 2) := by decide +kernel
theorem dX3_read_35 : decode cX3_read 35 = .ok (.if_icmp .gt 64, 3) := by decide +kernel
theorem dX3_read_38 : decode cX3_read 38 = .ok (.aload_n 0, 1) := by decide +kernel
theorem dX3_read_39 : decode cX3_read 39 = .ok (.invokevirtual 37, 3) := by decide +kernel
theorem dX3_read_42 : decode cX3_read 42 = .ok (.ifCond .eq 57, 3) := by decide +kernel
theorem dX3_read_45 : decode cX3_read 45 = .ok (.aload_n 0, 1) := by decide +kernel
theorem dX3_read_46 : decode cX3_read 46 = .ok (.getfield 26, 3) := by decide +kernel
theorem dX3_read_49 : decode cX3_read 49 = .ok (.aload_n 0, 1) := by decide +kernel
theorem dX3_read_50 : decode cX3_read 50 = .ok (.getfield 23, 3) := by decide +kernel
theorem dX3_read_53 : decode cX3_read 53 = .ok (.if_icmp .lt 23, 3) := by decide +kernel
theorem dX3_read_56 : decode cX3_read 56 = .ok (.new 32, 3) := by decide +kernel
theorem dX3_read_59 : decode cX3_read 59 = .ok (.dup, 1) := by decide +kernel
theorem dX3_read_60 : decode cX3_read 60 = .ok (.aload_n 0, 1) := by decide +kernel
theorem dX3_read_61 : decode cX3_read 61 = .ok (.getfield 29, 3) := by decide +kernel
theorem dX3_read_64 : decode cX3_read 64 = .ok (.aload_n 0, 1) := by decide +kernel
theorem dX3_read_65 : decode cX3_read 65 = .ok (.getfield 34, 3) := by decide +kernel
theorem dX3_read_68 : decode cX3_read 68 = .ok (.aload_n 0, 1) := by decide +kernel
theorem dX3_read_69 : decode cX3_read 69 = .ok (.invokevirtual 41, 3) := by decide +kernel
theorem dX3_read_72 : decode cX3_read 72 = .ok (.invokespecial 45, 3) := by decide +kernel
theorem dX3_read_75 : decode cX3_read 75 = .ok (.areturn, 1) := by decide +kernel
theorem dX3_read_76 : decode cX3_read 76 = .ok (.iload_n 3, 1) := by decide +kernel
theorem dX3_read_77 : decode cX3_read 77 = .ok (.bipush 8, 2) := by decide +kernel
theorem dX3_read_79 : decode cX3_read 79 = .ok (.if_icmp .eq 12, 3) := by decide +kernel
theorem dX3_read_82 : decode cX3_read 82 = .ok (.aload_n 0, 1) := by decide +kernel
theorem dX3_read_83 : decode cX3_read 83 = .ok (.bipush 59, 2) := by decide +kernel
theorem dX3_read_85 : decode cX3_read 85 = .ok (.invokevirtual 48, 3) := by decide +kernel
theorem dX3_read_88 : decode cX3_read 88 = .ok (.ifCond .ne 5, 3) := by decide +kernel
theorem dX3_read_91 : decode cX3_read 91 = .ok (.aconst_null, 1) := by decide +kernel
theorem dX3_read_92 : decode cX3_read 92 = .ok (.areturn, 1) := by decide +kernel
theorem dX3_read_93 : decode cX3_read 93 = .ok (.iinc 3 1, 3) := by decide +kernel
theorem dX3_read_96 : decode cX3_read 96 = .ok (.goto (-64), 3) := by decide +kernel
theorem dX3_read_99 : decode cX3_read 99 = .ok (.aconst_null, 1) := by decide +kernel
theorem dX3_read_100 : decode cX3_read 100 = .ok (.areturn, 1) := by decide +kernel
theorem dX3_place_0 : decode cX3_place 0 = .ok (.aload_n 0, 1) := by decide +kernel
theorem dX3_place_1 : decode cX3_place 1 = .ok (.getfield 26, 3) := by decide +kernel
theorem dX3_place_4 : decode cX3_place 4 = .ok (.ireturn, 1) := by decide +kernel
theorem dX3_ownCode_0 : decode cX3_ownCode 0 = .ok (.aload_n 0, 1) := by decide +kernel
theorem dX3_ownCode_1 : decode cX3_ownCode 1 = .ok (.getfield 15, 3) := by decide +kernel
theorem dX3_ownCode_4 : decode cX3_ownCode 4 = .ok (.newarray .int, 2) := by decide +kernel
theorem dX3_ownCode_6 : decode cX3_ownCode 6 = .ok (.astore_n 1, 1) := by decide +kernel
theorem dX3_ownCode_7 : decode cX3_ownCode 7 = .ok (.aload_n 0, 1) := by decide +kernel
theorem dX3_ownCode_8 : decode cX3_ownCode 8 = .ok (.getfield 9, 3) := by decide +kernel
theorem dX3_ownCode_11 : decode cX3_ownCode 11 = .ok (.iconst 0, 1) := by decide +kernel
theorem dX3_ownCode_12 : decode cX3_ownCode 12 = .ok (.aload_n 1, 1) := by decide +kernel
theorem dX3_ownCode_13 : decode cX3_ownCode 13 = .ok (.iconst 0, 1) := by decide +kernel
theorem dX3_ownCode_14 : decode cX3_ownCode 14 = .ok (.aload_n 0, 1) := by decide +kernel
theorem dX3_ownCode_15 : decode cX3_ownCode 15 = .ok (.getfield 15, 3) := by decide +kernel
theorem dX3_ownCode_18 : decode cX3_ownCode 18 = .ok (.invokestatic 52, 3) := by decide +kernel
theorem dX3_ownCode_21 : decode cX3_ownCode 21 = .ok (.aload_n 1, 1) := by decide +kernel
theorem dX3_ownCode_22 : decode cX3_ownCode 22 = .ok (.areturn, 1) := by decide +kernel
theorem dX3_readClause_0 : decode cX3_readClause 0 = .ok (.aload_n 0, 1) := by decide +kernel
theorem dX3_readClause_1 : decode cX3_readClause 1 = .ok (.ldc 58, 2) := by decide +kernel
theorem dX3_readClause_3 : decode cX3_readClause 3 = .ok (.invokevirtual 60, 3) := by decide +kernel
theorem dX3_readClause_6 : decode cX3_readClause 6 = .ok (.tableswitch 138 0 3 #[30, 52, 74, 106], 30) := by decide +kernel
theorem dX3_readClause_36 : decode cX3_readClause 36 = .ok (.aload_n 0, 1) := by decide +kernel
theorem dX3_readClause_37 : decode cX3_readClause 37 = .ok (.ldc 64, 2) := by decide +kernel
theorem dX3_readClause_39 : decode cX3_readClause 39 = .ok (.invokevirtual 66, 3) := by decide +kernel
theorem dX3_readClause_42 : decode cX3_readClause 42 = .ok (.ifCond .eq 14, 3) := by decide +kernel
theorem dX3_readClause_45 : decode cX3_readClause 45 = .ok (.aload_n 0, 1) := by decide +kernel
theorem dX3_readClause_46 : decode cX3_readClause 46 = .ok (.invokevirtual 70, 3) := by decide +kernel
theorem dX3_readClause_49 : decode cX3_readClause 49 = .ok (.ifCond .eq 7, 3) := by decide +kernel
theorem dX3_readClause_52 : decode cX3_readClause 52 = .ok (.iconst 1, 1) := by decide +kernel
theorem dX3_readClause_53 : decode cX3_readClause 53 = .ok (.goto 4, 3) := by decide +kernel
theorem dX3_readClause_56 : decode cX3_readClause 56 = .ok (.iconst 0, 1) := by decide +kernel
theorem dX3_readClause_57 : decode cX3_readClause 57 = .ok (.ireturn, 1) := by decide +kernel
theorem dX3_readClause_58 : decode cX3_readClause 58 = .ok (.aload_n 0, 1) := by decide +kernel
theorem dX3_readClause_59 : decode cX3_readClause 59 = .ok (.ldc 73, 2) := by decide +kernel
theorem dX3_readClause_61 : decode cX3_readClause 61 = .ok (.invokevirtual 66, 3) := by decide +kernel
theorem dX3_readClause_64 : decode cX3_readClause 64 = .ok (.ifCond .eq 14, 3) := by decide +kernel
theorem dX3_readClause_67 : decode cX3_readClause 67 = .ok (.aload_n 0, 1) := by decide +kernel
theorem dX3_readClause_68 : decode cX3_readClause 68 = .ok (.invokevirtual 75, 3) := by decide +kernel
theorem dX3_readClause_71 : decode cX3_readClause 71 = .ok (.ifCond .eq 7, 3) := by decide +kernel
theorem dX3_readClause_74 : decode cX3_readClause 74 = .ok (.iconst 1, 1) := by decide +kernel
theorem dX3_readClause_75 : decode cX3_readClause 75 = .ok (.goto 4, 3) := by decide +kernel
theorem dX3_readClause_78 : decode cX3_readClause 78 = .ok (.iconst 0, 1) := by decide +kernel
theorem dX3_readClause_79 : decode cX3_readClause 79 = .ok (.ireturn, 1) := by decide +kernel
theorem dX3_readClause_80 : decode cX3_readClause 80 = .ok (.aload_n 0, 1) := by decide +kernel
theorem dX3_readClause_81 : decode cX3_readClause 81 = .ok (.ldc 78, 2) := by decide +kernel
theorem dX3_readClause_83 : decode cX3_readClause 83 = .ok (.invokevirtual 66, 3) := by decide +kernel
theorem dX3_readClause_86 : decode cX3_readClause 86 = .ok (.ifCond .eq 24, 3) := by decide +kernel
theorem dX3_readClause_89 : decode cX3_readClause 89 = .ok (.aload_n 0, 1) := by decide +kernel
theorem dX3_readClause_90 : decode cX3_readClause 90 = .ok (.iconst 0, 1) := by decide +kernel
theorem dX3_readClause_91 : decode cX3_readClause 91 = .ok (.invokevirtual 80, 3) := by decide +kernel
theorem dX3_readClause_94 : decode cX3_readClause 94 = .ok (.ifCond .eq 16, 3) := by decide +kernel
theorem dX3_readClause_97 : decode cX3_readClause 97 = .ok (.aload_n 0, 1) := by decide +kernel
theorem dX3_readClause_98 : decode cX3_readClause 98 = .ok (.bipush (-4), 2) := by decide +kernel
theorem dX3_readClause_100 : decode cX3_readClause 100 = .ok (.invokevirtual 84, 3) := by decide +kernel
theorem dX3_readClause_103 : decode cX3_readClause 103 = .ok (.ifCond .eq 7, 3) := by decide +kernel
theorem dX3_readClause_106 : decode cX3_readClause 106 = .ok (.iconst 1, 1) := by decide +kernel
theorem dX3_readClause_107 : decode cX3_readClause 107 = .ok (.goto 4, 3) := by decide +kernel
theorem dX3_readClause_110 : decode cX3_readClause 110 = .ok (.iconst 0, 1) := by decide +kernel
theorem dX3_readClause_111 : decode cX3_readClause 111 = .ok (.ireturn, 1) := by decide +kernel
theorem dX3_readClause_112 : decode cX3_readClause 112 = .ok (.aload_n 0, 1) := by decide +kernel
theorem dX3_readClause_113 : decode cX3_readClause 113 = .ok (.ldc 87, 2) := by decide +kernel
theorem dX3_readClause_115 : decode cX3_readClause 115 = .ok (.invokevirtual 66, 3) := by decide +kernel
theorem dX3_readClause_118 : decode cX3_readClause 118 = .ok (.ifCond .eq 24, 3) := by decide +kernel
theorem dX3_readClause_121 : decode cX3_readClause 121 = .ok (.aload_n 0, 1) := by decide +kernel
theorem dX3_readClause_122 : decode cX3_readClause 122 = .ok (.iconst 0, 1) := by decide +kernel
theorem dX3_readClause_123 : decode cX3_readClause 123 = .ok (.invokevirtual 80, 3) := by decide +kernel
theorem dX3_readClause_126 : decode cX3_readClause 126 = .ok (.ifCond .eq 16, 3) := by decide +kernel
theorem dX3_readClause_129 : decode cX3_readClause 129 = .ok (.aload_n 0, 1) := by decide +kernel
theorem dX3_readClause_130 : decode cX3_readClause 130 = .ok (.bipush (-5), 2) := by decide +kernel
theorem dX3_readClause_132 : decode cX3_readClause 132 = .ok (.invokevirtual 84, 3) := by decide +kernel
theorem dX3_readClause_135 : decode cX3_readClause 135 = .ok (.ifCond .eq 7, 3) := by decide +kernel
theorem dX3_readClause_138 : decode cX3_readClause 138 = .ok (.iconst 1, 1) := by decide +kernel
theorem dX3_readClause_139 : decode cX3_readClause 139 = .ok (.goto 4, 3) := by decide +kernel
theorem dX3_readClause_142 : decode cX3_readClause 142 = .ok (.iconst 0, 1) := by decide +kernel
theorem dX3_readClause_143 : decode cX3_readClause 143 = .ok (.ireturn, 1) := by decide +kernel
theorem dX3_readClause_144 : decode cX3_readClause 144 = .ok (.iconst 0, 1) := by decide +kernel
theorem dX3_readClause_145 : decode cX3_readClause 145 = .ok (.ireturn, 1) := by decide +kernel
theorem dX3_readUp_0 : decode cX3_readUp 0 = .ok (.aload_n 0, 1) := by decide +kernel
theorem dX3_readUp_1 : decode cX3_readUp 1 = .ok (.aload_n 0, 1) := by decide +kernel
theorem dX3_readUp_2 : decode cX3_readUp 2 = .ok (.invokevirtual 89, 3) := by decide +kernel
theorem dX3_readUp_5 : decode cX3_readUp 5 = .ok (.putfield 29, 3) := by decide +kernel
theorem dX3_readUp_8 : decode cX3_readUp 8 = .ok (.aload_n 0, 1) := by decide +kernel
theorem dX3_readUp_9 : decode cX3_readUp 9 = .ok (.getfield 29, 3) := by decide +kernel
theorem dX3_readUp_12 : decode cX3_readUp 12 = .ok (.ifCond .lt 7, 3) := by decide +kernel
theorem dX3_readUp_15 : decode cX3_readUp 15 = .ok (.iconst 1, 1) := by decide +kernel
theorem dX3_readUp_16 : decode cX3_readUp 16 = .ok (.goto 4, 3) := by decide +kernel
theorem dX3_readUp_19 : decode cX3_readUp 19 = .ok (.iconst 0, 1) := by decide +kernel
theorem dX3_readUp_20 : decode cX3_readUp 20 = .ok (.ireturn, 1) := by decide +kernel
theorem dX3_readWins_0 : decode cX3_readWins 0 = .ok (.aload_n 0, 1) := by decide +kernel
theorem dX3_readWins_1 : decode cX3_readWins 1 = .ok (.aload_n 0, 1) := by decide +kernel
theorem dX3_readWins_2 : decode cX3_readWins 2 = .ok (.ldc 93, 2) := by decide +kernel
theorem dX3_readWins_4 : decode cX3_readWins 4 = .ok (.invokevirtual 60, 3) := by decide +kernel
theorem dX3_readWins_7 : decode cX3_readWins 7 = .ok (.putfield 34, 3) := by decide +kernel
theorem dX3_readWins_10 : decode cX3_readWins 10 = .ok (.aload_n 0, 1) := by decide +kernel
theorem dX3_readWins_11 : decode cX3_readWins 11 = .ok (.getfield 34, 3) := by decide +kernel
theorem dX3_readWins_14 : decode cX3_readWins 14 = .ok (.ifCond .lt 7, 3) := by decide +kernel
theorem dX3_readWins_17 : decode cX3_readWins 17 = .ok (.iconst 1, 1) := by decide +kernel
theorem dX3_readWins_18 : decode cX3_readWins 18 = .ok (.goto 4, 3) := by decide +kernel
theorem dX3_readWins_21 : decode cX3_readWins 21 = .ok (.iconst 0, 1) := by decide +kernel
theorem dX3_readWins_22 : decode cX3_readWins 22 = .ok (.ireturn, 1) := by decide +kernel
theorem dX3_readEither_0 : decode cX3_readEither 0 = .ok (.aload_n 0, 1) := by decide +kernel
theorem dX3_readEither_1 : decode cX3_readEither 1 = .ok (.iload_n 1, 1) := by decide +kernel
theorem dX3_readEither_2 : decode cX3_readEither 2 = .ok (.invokevirtual 95, 3) := by decide +kernel
theorem dX3_readEither_5 : decode cX3_readEither 5 = .ok (.ifCond .ne 5, 3) := by decide +kernel
theorem dX3_readEither_8 : decode cX3_readEither 8 = .ok (.iconst 0, 1) := by decide +kernel
theorem dX3_readEither_9 : decode cX3_readEither 9 = .ok (.ireturn, 1) := by decide +kernel
theorem dX3_readEither_10 : decode cX3_readEither 10 = .ok (.iconst 0, 1) := by decide +kernel
theorem dX3_readEither_11 : decode cX3_readEither 11 = .ok (.istore_n 2, 1) := by decide +kernel
theorem dX3_readEither_12 : decode cX3_readEither 12 = .ok (.iload_n 2, 1) := by decide +kernel
theorem dX3_readEither_13 : decode cX3_readEither 13 = .ok (.bipush 120, 2) := by decide +kernel
theorem dX3_readEither_15 : decode cX3_readEither 15 = .ok (.if_icmp .ge 37, 3) := by decide +kernel
theorem dX3_readEither_18 : decode cX3_readEither 18 = .ok (.aload_n 0, 1) := by decide +kernel
theorem dX3_readEither_19 : decode cX3_readEither 19 = .ok (.bipush 124, 2) := by decide +kernel
theorem dX3_readEither_21 : decode cX3_readEither 21 = .ok (.invokevirtual 48, 3) := by decide +kernel
theorem dX3_readEither_24 : decode cX3_readEither 24 = .ok (.ifCond .eq 28, 3) := by decide +kernel
theorem dX3_readEither_27 : decode cX3_readEither 27 = .ok (.aload_n 0, 1) := by decide +kernel
theorem dX3_readEither_28 : decode cX3_readEither 28 = .ok (.iload_n 1, 1) := by decide +kernel
theorem dX3_readEither_29 : decode cX3_readEither 29 = .ok (.invokevirtual 95, 3) := by decide +kernel
theorem dX3_readEither_32 : decode cX3_readEither 32 = .ok (.ifCond .eq 12, 3) := by decide +kernel
theorem dX3_readEither_35 : decode cX3_readEither 35 = .ok (.aload_n 0, 1) := by decide +kernel
theorem dX3_readEither_36 : decode cX3_readEither 36 = .ok (.bipush (-3), 2) := by decide +kernel
theorem dX3_readEither_38 : decode cX3_readEither 38 = .ok (.invokevirtual 84, 3) := by decide +kernel
theorem dX3_readEither_41 : decode cX3_readEither 41 = .ok (.ifCond .ne 5, 3) := by decide +kernel
theorem dX3_readEither_44 : decode cX3_readEither 44 = .ok (.iconst 0, 1) := by decide +kernel
theorem dX3_readEither_45 : decode cX3_readEither 45 = .ok (.ireturn, 1) := by decide +kernel
theorem dX3_readEither_46 : decode cX3_readEither 46 = .ok (.iinc 2 1, 3) := by decide +kernel
theorem dX3_readEither_49 : decode cX3_readEither 49 = .ok (.goto (-37), 3) := by decide +kernel
theorem dX3_readEither_52 : decode cX3_readEither 52 = .ok (.iconst 1, 1) := by decide +kernel
theorem dX3_readEither_53 : decode cX3_readEither 53 = .ok (.ireturn, 1) := by decide +kernel
theorem dX3_readBoth_0 : decode cX3_readBoth 0 = .ok (.aload_n 0, 1) := by decide +kernel
theorem dX3_readBoth_1 : decode cX3_readBoth 1 = .ok (.iload_n 1, 1) := by decide +kernel
theorem dX3_readBoth_2 : decode cX3_readBoth 2 = .ok (.invokevirtual 98, 3) := by decide +kernel
theorem dX3_readBoth_5 : decode cX3_readBoth 5 = .ok (.ifCond .ne 5, 3) := by decide +kernel
theorem dX3_readBoth_8 : decode cX3_readBoth 8 = .ok (.iconst 0, 1) := by decide +kernel
theorem dX3_readBoth_9 : decode cX3_readBoth 9 = .ok (.ireturn, 1) := by decide +kernel
theorem dX3_readBoth_10 : decode cX3_readBoth 10 = .ok (.iconst 0, 1) := by decide +kernel
theorem dX3_readBoth_11 : decode cX3_readBoth 11 = .ok (.istore_n 2, 1) := by decide +kernel
theorem dX3_readBoth_12 : decode cX3_readBoth 12 = .ok (.iload_n 2, 1) := by decide +kernel
theorem dX3_readBoth_13 : decode cX3_readBoth 13 = .ok (.bipush 120, 2) := by decide +kernel
theorem dX3_readBoth_15 : decode cX3_readBoth 15 = .ok (.if_icmp .ge 37, 3) := by decide +kernel
theorem dX3_readBoth_18 : decode cX3_readBoth 18 = .ok (.aload_n 0, 1) := by decide +kernel
theorem dX3_readBoth_19 : decode cX3_readBoth 19 = .ok (.bipush 38, 2) := by decide +kernel
theorem dX3_readBoth_21 : decode cX3_readBoth 21 = .ok (.invokevirtual 48, 3) := by decide +kernel
theorem dX3_readBoth_24 : decode cX3_readBoth 24 = .ok (.ifCond .eq 28, 3) := by decide +kernel
theorem dX3_readBoth_27 : decode cX3_readBoth 27 = .ok (.aload_n 0, 1) := by decide +kernel
theorem dX3_readBoth_28 : decode cX3_readBoth 28 = .ok (.iload_n 1, 1) := by decide +kernel
theorem dX3_readBoth_29 : decode cX3_readBoth 29 = .ok (.invokevirtual 98, 3) := by decide +kernel
theorem dX3_readBoth_32 : decode cX3_readBoth 32 = .ok (.ifCond .eq 12, 3) := by decide +kernel
theorem dX3_readBoth_35 : decode cX3_readBoth 35 = .ok (.aload_n 0, 1) := by decide +kernel
theorem dX3_readBoth_36 : decode cX3_readBoth 36 = .ok (.bipush (-2), 2) := by decide +kernel
theorem dX3_readBoth_38 : decode cX3_readBoth 38 = .ok (.invokevirtual 84, 3) := by decide +kernel
theorem dX3_readBoth_41 : decode cX3_readBoth 41 = .ok (.ifCond .ne 5, 3) := by decide +kernel
theorem dX3_readBoth_44 : decode cX3_readBoth 44 = .ok (.iconst 0, 1) := by decide +kernel
theorem dX3_readBoth_45 : decode cX3_readBoth 45 = .ok (.ireturn, 1) := by decide +kernel
theorem dX3_readBoth_46 : decode cX3_readBoth 46 = .ok (.iinc 2 1, 3) := by decide +kernel
theorem dX3_readBoth_49 : decode cX3_readBoth 49 = .ok (.goto (-37), 3) := by decide +kernel
theorem dX3_readBoth_52 : decode cX3_readBoth 52 = .ok (.iconst 1, 1) := by decide +kernel
theorem dX3_readBoth_53 : decode cX3_readBoth 53 = .ok (.ireturn, 1) := by decide +kernel
theorem dX3_readFactor_0 : decode cX3_readFactor 0 = .ok (.iload_n 1, 1) := by decide +kernel
theorem dX3_readFactor_1 : decode cX3_readFactor 1 = .ok (.iconst 5, 1) := by decide +kernel
theorem dX3_readFactor_2 : decode cX3_readFactor 2 = .ok (.if_icmp .ge 36, 3) := by decide +kernel
theorem dX3_readFactor_5 : decode cX3_readFactor 5 = .ok (.aload_n 0, 1) := by decide +kernel
theorem dX3_readFactor_6 : decode cX3_readFactor 6 = .ok (.bipush 33, 2) := by decide +kernel
theorem dX3_readFactor_8 : decode cX3_readFactor 8 = .ok (.invokevirtual 48, 3) := by decide +kernel
theorem dX3_readFactor_11 : decode cX3_readFactor 11 = .ok (.ifCond .eq 27, 3) := by decide +kernel
theorem dX3_readFactor_14 : decode cX3_readFactor 14 = .ok (.aload_n 0, 1) := by decide +kernel
theorem dX3_readFactor_15 : decode cX3_readFactor 15 = .ok (.iload_n 1, 1) := by decide +kernel
theorem dX3_readFactor_16 : decode cX3_readFactor 16 = .ok (.iconst 1, 1) := by decide +kernel
theorem dX3_readFactor_17 : decode cX3_readFactor 17 = .ok (.iadd, 1) := by decide +kernel
theorem dX3_readFactor_18 : decode cX3_readFactor 18 = .ok (.invokevirtual 98, 3) := by decide +kernel
theorem dX3_readFactor_21 : decode cX3_readFactor 21 = .ok (.ifCond .eq 15, 3) := by decide +kernel
theorem dX3_readFactor_24 : decode cX3_readFactor 24 = .ok (.aload_n 0, 1) := by decide +kernel
theorem dX3_readFactor_25 : decode cX3_readFactor 25 = .ok (.iconst (-1), 1) := by decide +kernel
theorem dX3_readFactor_26 : decode cX3_readFactor 26 = .ok (.invokevirtual 84, 3) := by decide +kernel
theorem dX3_readFactor_29 : decode cX3_readFactor 29 = .ok (.ifCond .eq 7, 3) := by decide +kernel
theorem dX3_readFactor_32 : decode cX3_readFactor 32 = .ok (.iconst 1, 1) := by decide +kernel
theorem dX3_readFactor_33 : decode cX3_readFactor 33 = .ok (.goto 4, 3) := by decide +kernel
theorem dX3_readFactor_36 : decode cX3_readFactor 36 = .ok (.iconst 0, 1) := by decide +kernel
theorem dX3_readFactor_37 : decode cX3_readFactor 37 = .ok (.ireturn, 1) := by decide +kernel
theorem dX3_readFactor_38 : decode cX3_readFactor 38 = .ok (.iload_n 1, 1) := by decide +kernel
theorem dX3_readFactor_39 : decode cX3_readFactor 39 = .ok (.iconst 5, 1) := by decide +kernel
theorem dX3_readFactor_40 : decode cX3_readFactor 40 = .ok (.if_icmp .ge 37, 3) := by decide +kernel
theorem dX3_readFactor_43 : decode cX3_readFactor 43 = .ok (.aload_n 0, 1) := by decide +kernel
theorem dX3_readFactor_44 : decode cX3_readFactor 44 = .ok (.bipush 40, 2) := by decide +kernel
theorem dX3_readFactor_46 : decode cX3_readFactor 46 = .ok (.invokevirtual 48, 3) := by decide +kernel
theorem dX3_readFactor_49 : decode cX3_readFactor 49 = .ok (.ifCond .eq 28, 3) := by decide +kernel
theorem dX3_readFactor_52 : decode cX3_readFactor 52 = .ok (.aload_n 0, 1) := by decide +kernel
theorem dX3_readFactor_53 : decode cX3_readFactor 53 = .ok (.iload_n 1, 1) := by decide +kernel
theorem dX3_readFactor_54 : decode cX3_readFactor 54 = .ok (.iconst 1, 1) := by decide +kernel
theorem dX3_readFactor_55 : decode cX3_readFactor 55 = .ok (.iadd, 1) := by decide +kernel
theorem dX3_readFactor_56 : decode cX3_readFactor 56 = .ok (.invokevirtual 80, 3) := by decide +kernel
theorem dX3_readFactor_59 : decode cX3_readFactor 59 = .ok (.ifCond .eq 16, 3) := by decide +kernel
theorem dX3_readFactor_62 : decode cX3_readFactor 62 = .ok (.aload_n 0, 1) := by decide +kernel
theorem dX3_readFactor_63 : decode cX3_readFactor 63 = .ok (.bipush 41, 2) := by decide +kernel
theorem dX3_readFactor_65 : decode cX3_readFactor 65 = .ok (.invokevirtual 48, 3) := by decide +kernel
theorem dX3_readFactor_68 : decode cX3_readFactor 68 = .ok (.ifCond .eq 7, 3) := by decide +kernel
theorem dX3_readFactor_71 : decode cX3_readFactor 71 = .ok (.iconst 1, 1) := by decide +kernel
theorem dX3_readFactor_72 : decode cX3_readFactor 72 = .ok (.goto 4, 3) := by decide +kernel
theorem dX3_readFactor_75 : decode cX3_readFactor 75 = .ok (.iconst 0, 1) := by decide +kernel
theorem dX3_readFactor_76 : decode cX3_readFactor 76 = .ok (.ireturn, 1) := by decide +kernel
theorem dX3_readFactor_77 : decode cX3_readFactor 77 = .ok (.aload_n 0, 1) := by decide +kernel
theorem dX3_readFactor_78 : decode cX3_readFactor 78 = .ok (.ldc 101, 2) := by decide +kernel
theorem dX3_readFactor_80 : decode cX3_readFactor 80 = .ok (.invokevirtual 60, 3) := by decide +kernel
theorem dX3_readFactor_83 : decode cX3_readFactor 83 = .ok (.istore_n 2, 1) := by decide +kernel
theorem dX3_readFactor_84 : decode cX3_readFactor 84 = .ok (.iload_n 2, 1) := by decide +kernel
theorem dX3_readFactor_85 : decode cX3_readFactor 85 = .ok (.ifCond .ge 7, 3) := by decide +kernel
theorem dX3_readFactor_88 : decode cX3_readFactor 88 = .ok (.iconst (-1), 1) := by decide +kernel
theorem dX3_readFactor_89 : decode cX3_readFactor 89 = .ok (.goto 9, 3) := by decide +kernel
theorem dX3_readFactor_92 : decode cX3_readFactor 92 = .ok (.aload_n 0, 1) := by decide +kernel
theorem dX3_readFactor_93 : decode cX3_readFactor 93 = .ok (.ldc 103, 2) := by decide +kernel
theorem dX3_readFactor_95 : decode cX3_readFactor 95 = .ok (.invokevirtual 60, 3) := by decide +kernel
theorem dX3_readFactor_98 : decode cX3_readFactor 98 = .ok (.istore_n 3, 1) := by decide +kernel
theorem dX3_readFactor_99 : decode cX3_readFactor 99 = .ok (.iload_n 3, 1) := by decide +kernel
theorem dX3_readFactor_100 : decode cX3_readFactor 100 = .ok (.ifCond .ge 7, 3) := by decide +kernel
theorem dX3_readFactor_103 : decode cX3_readFactor 103 = .ok (.iconst (-1), 1) := by decide +kernel
theorem dX3_readFactor_104 : decode cX3_readFactor 104 = .ok (.goto 7, 3) := by decide +kernel
theorem dX3_readFactor_107 : decode cX3_readFactor 107 = .ok (.aload_n 0, 1) := by decide +kernel
theorem dX3_readFactor_108 : decode cX3_readFactor 108 = .ok (.invokevirtual 89, 3) := by decide +kernel
theorem dX3_readFactor_111 : decode cX3_readFactor 111 = .ok (.istore 4, 2) := by decide +kernel
theorem dX3_readFactor_113 : decode cX3_readFactor 113 = .ok (.iload 4, 2) := by decide +kernel
theorem dX3_readFactor_115 : decode cX3_readFactor 115 = .ok (.ifCond .lt 21, 3) := by decide +kernel
theorem dX3_readFactor_118 : decode cX3_readFactor 118 = .ok (.aload_n 0, 1) := by decide +kernel
theorem dX3_readFactor_119 : decode cX3_readFactor 119 = .ok (.iload_n 2, 1) := by decide +kernel
theorem dX3_readFactor_120 : decode cX3_readFactor 120 = .ok (.iload_n 3, 1) := by decide +kernel
theorem dX3_readFactor_121 : decode cX3_readFactor 121 = .ok (.iload 4, 2) := by decide +kernel
theorem dX3_readFactor_123 : decode cX3_readFactor 123 = .ok (.invokestatic 105, 3) := by decide +kernel
theorem dX3_readFactor_126 : decode cX3_readFactor 126 = .ok (.invokevirtual 84, 3) := by decide +kernel
theorem dX3_readFactor_129 : decode cX3_readFactor 129 = .ok (.ifCond .eq 7, 3) := by decide +kernel
theorem dX3_readFactor_132 : decode cX3_readFactor 132 = .ok (.iconst 1, 1) := by decide +kernel
theorem dX3_readFactor_133 : decode cX3_readFactor 133 = .ok (.goto 4, 3) := by decide +kernel
theorem dX3_readFactor_136 : decode cX3_readFactor 136 = .ok (.iconst 0, 1) := by decide +kernel
theorem dX3_readFactor_137 : decode cX3_readFactor 137 = .ok (.ireturn, 1) := by decide +kernel
theorem dX3_readNumber_0 : decode cX3_readNumber 0 = .ok (.aload_n 0, 1) := by decide +kernel
theorem dX3_readNumber_1 : decode cX3_readNumber 1 = .ok (.ldc 109, 2) := by decide +kernel
theorem dX3_readNumber_3 : decode cX3_readNumber 3 = .ok (.invokevirtual 60, 3) := by decide +kernel
theorem dX3_readNumber_6 : decode cX3_readNumber 6 = .ok (.istore_n 1, 1) := by decide +kernel
theorem dX3_readNumber_7 : decode cX3_readNumber 7 = .ok (.iload_n 1, 1) := by decide +kernel
theorem dX3_readNumber_8 : decode cX3_readNumber 8 = .ok (.ifCond .gt 5, 3) := by decide +kernel
theorem dX3_readNumber_11 : decode cX3_readNumber 11 = .ok (.iload_n 1, 1) := by decide +kernel
theorem dX3_readNumber_12 : decode cX3_readNumber 12 = .ok (.ireturn, 1) := by decide +kernel
theorem dX3_readNumber_13 : decode cX3_readNumber 13 = .ok (.aload_n 0, 1) := by decide +kernel
theorem dX3_readNumber_14 : decode cX3_readNumber 14 = .ok (.ldc 109, 2) := by decide +kernel
theorem dX3_readNumber_16 : decode cX3_readNumber 16 = .ok (.invokevirtual 60, 3) := by decide +kernel
theorem dX3_readNumber_19 : decode cX3_readNumber 19 = .ok (.istore_n 2, 1) := by decide +kernel
theorem dX3_readNumber_20 : decode cX3_readNumber 20 = .ok (.iload_n 2, 1) := by decide +kernel
theorem dX3_readNumber_21 : decode cX3_readNumber 21 = .ok (.ifCond .ge 7, 3) := by decide +kernel
theorem dX3_readNumber_24 : decode cX3_readNumber 24 = .ok (.iload_n 1, 1) := by decide +kernel
theorem dX3_readNumber_25 : decode cX3_readNumber 25 = .ok (.goto 9, 3) := by decide +kernel
theorem dX3_readNumber_28 : decode cX3_readNumber 28 = .ok (.iload_n 1, 1) := by decide +kernel
theorem dX3_readNumber_29 : decode cX3_readNumber 29 = .ok (.bipush 10, 2) := by decide +kernel
theorem dX3_readNumber_31 : decode cX3_readNumber 31 = .ok (.imul, 1) := by decide +kernel
theorem dX3_readNumber_32 : decode cX3_readNumber 32 = .ok (.iload_n 2, 1) := by decide +kernel
theorem dX3_readNumber_33 : decode cX3_readNumber 33 = .ok (.iadd, 1) := by decide +kernel
theorem dX3_readNumber_34 : decode cX3_readNumber 34 = .ok (.ireturn, 1) := by decide +kernel
theorem dX3_take_0 : decode cX3_take 0 = .ok (.aload_n 0, 1) := by decide +kernel
theorem dX3_take_1 : decode cX3_take 1 = .ok (.getfield 26, 3) := by decide +kernel
theorem dX3_take_4 : decode cX3_take 4 = .ok (.aload_n 0, 1) := by decide +kernel
theorem dX3_take_5 : decode cX3_take 5 = .ok (.getfield 23, 3) := by decide +kernel
theorem dX3_take_8 : decode cX3_take 8 = .ok (.if_icmp .ge 28, 3) := by decide +kernel
theorem dX3_take_11 : decode cX3_take 11 = .ok (.aload_n 0, 1) := by decide +kernel
theorem dX3_take_12 : decode cX3_take 12 = .ok (.getfield 26, 3) := by decide +kernel
theorem dX3_take_15 : decode cX3_take 15 = .ok (.aload_n 0, 1) := by decide +kernel
theorem dX3_take_16 : decode cX3_take 16 = .ok (.getfield 19, 3) := by decide +kernel
theorem dX3_take_19 : decode cX3_take 19 = .ok (.arraylength, 1) := by decide +kernel
theorem dX3_take_20 : decode cX3_take 20 = .ok (.if_icmp .ge 16, 3) := by decide +kernel
theorem dX3_take_23 : decode cX3_take 23 = .ok (.aload_n 0, 1) := by decide +kernel
theorem dX3_take_24 : decode cX3_take 24 = .ok (.getfield 19, 3) := by decide +kernel
theorem dX3_take_27 : decode cX3_take 27 = .ok (.aload_n 0, 1) := by decide +kernel
theorem dX3_take_28 : decode cX3_take 28 = .ok (.getfield 26, 3) := by decide +kernel
theorem dX3_take_31 : decode cX3_take 31 = .ok (.baload, 1) := by decide +kernel
theorem dX3_take_32 : decode cX3_take 32 = .ok (.iload_n 1, 1) := by decide +kernel
theorem dX3_take_33 : decode cX3_take 33 = .ok (.if_icmp .eq 5, 3) := by decide +kernel
theorem dX3_take_36 : decode cX3_take 36 = .ok (.iconst 0, 1) := by decide +kernel
theorem dX3_take_37 : decode cX3_take 37 = .ok (.ireturn, 1) := by decide +kernel
theorem dX3_take_38 : decode cX3_take 38 = .ok (.aload_n 0, 1) := by decide +kernel
theorem dX3_take_39 : decode cX3_take 39 = .ok (.dup, 1) := by decide +kernel
theorem dX3_take_40 : decode cX3_take 40 = .ok (.getfield 26, 3) := by decide +kernel
theorem dX3_take_43 : decode cX3_take 43 = .ok (.iconst 1, 1) := by decide +kernel
theorem dX3_take_44 : decode cX3_take 44 = .ok (.iadd, 1) := by decide +kernel
theorem dX3_take_45 : decode cX3_take 45 = .ok (.putfield 26, 3) := by decide +kernel
theorem dX3_take_48 : decode cX3_take 48 = .ok (.iconst 1, 1) := by decide +kernel
theorem dX3_take_49 : decode cX3_take 49 = .ok (.ireturn, 1) := by decide +kernel
theorem dX3_takeWord_0 : decode cX3_takeWord 0 = .ok (.iconst 0, 1) := by decide +kernel
theorem dX3_takeWord_1 : decode cX3_takeWord 1 = .ok (.istore_n 2, 1) := by decide +kernel
theorem dX3_takeWord_2 : decode cX3_takeWord 2 = .ok (.iload_n 2, 1) := by decide +kernel
theorem dX3_takeWord_3 : decode cX3_takeWord 3 = .ok (.aload_n 1, 1) := by decide +kernel
theorem dX3_takeWord_4 : decode cX3_takeWord 4 = .ok (.invokevirtual 111, 3) := by decide +kernel
theorem dX3_takeWord_7 : decode cX3_takeWord 7 = .ok (.if_icmp .ge 23, 3) := by decide +kernel
theorem dX3_takeWord_10 : decode cX3_takeWord 10 = .ok (.aload_n 0, 1) := by decide +kernel
theorem dX3_takeWord_11 : decode cX3_takeWord 11 = .ok (.aload_n 1, 1) := by decide +kernel
theorem dX3_takeWord_12 : decode cX3_takeWord 12 = .ok (.iload_n 2, 1) := by decide +kernel
theorem dX3_takeWord_13 : decode cX3_takeWord 13 = .ok (.invokevirtual 115, 3) := by decide +kernel
theorem dX3_takeWord_16 : decode cX3_takeWord 16 = .ok (.invokevirtual 48, 3) := by decide +kernel
theorem dX3_takeWord_19 : decode cX3_takeWord 19 = .ok (.ifCond .ne 5, 3) := by decide +kernel
theorem dX3_takeWord_22 : decode cX3_takeWord 22 = .ok (.iconst 0, 1) := by decide +kernel
theorem dX3_takeWord_23 : decode cX3_takeWord 23 = .ok (.ireturn, 1) := by decide +kernel
theorem dX3_takeWord_24 : decode cX3_takeWord 24 = .ok (.iinc 2 1, 3) := by decide +kernel
theorem dX3_takeWord_27 : decode cX3_takeWord 27 = .ok (.goto (-25), 3) := by decide +kernel
theorem dX3_takeWord_30 : decode cX3_takeWord 30 = .ok (.iconst 1, 1) := by decide +kernel
theorem dX3_takeWord_31 : decode cX3_takeWord 31 = .ok (.ireturn, 1) := by decide +kernel
theorem dX3_takeOneOf_0 : decode cX3_takeOneOf 0 = .ok (.aload_n 0, 1) := by decide +kernel
theorem dX3_takeOneOf_1 : decode cX3_takeOneOf 1 = .ok (.getfield 26, 3) := by decide +kernel
theorem dX3_takeOneOf_4 : decode cX3_takeOneOf 4 = .ok (.aload_n 0, 1) := by decide +kernel
theorem dX3_takeOneOf_5 : decode cX3_takeOneOf 5 = .ok (.getfield 23, 3) := by decide +kernel
theorem dX3_takeOneOf_8 : decode cX3_takeOneOf 8 = .ok (.if_icmp .ge 15, 3) := by decide +kernel
theorem dX3_takeOneOf_11 : decode cX3_takeOneOf 11 = .ok (.aload_n 0, 1) := by decide +kernel
theorem dX3_takeOneOf_12 : decode cX3_takeOneOf 12 = .ok (.getfield 26, 3) := by decide +kernel
theorem dX3_takeOneOf_15 : decode cX3_takeOneOf 15 = .ok (.aload_n 0, 1) := by decide +kernel
theorem dX3_takeOneOf_16 : decode cX3_takeOneOf 16 = .ok (.getfield 19, 3) := by decide +kernel
theorem dX3_takeOneOf_19 : decode cX3_takeOneOf 19 = .ok (.arraylength, 1) := by decide +kernel
theorem dX3_takeOneOf_20 : decode cX3_takeOneOf 20 = .ok (.if_icmp .lt 5, 3) := by decide +kernel
theorem dX3_takeOneOf_23 : decode cX3_takeOneOf 23 = .ok (.iconst (-1), 1) := by decide +kernel
theorem dX3_takeOneOf_24 : decode cX3_takeOneOf 24 = .ok (.ireturn, 1) := by decide +kernel
theorem dX3_takeOneOf_25 : decode cX3_takeOneOf 25 = .ok (.aload_n 1, 1) := by decide +kernel
theorem dX3_takeOneOf_26 : decode cX3_takeOneOf 26 = .ok (.aload_n 0, 1) := by decide +kernel
theorem dX3_takeOneOf_27 : decode cX3_takeOneOf 27 = .ok (.getfield 19, 3) := by decide +kernel
theorem dX3_takeOneOf_30 : decode cX3_takeOneOf 30 = .ok (.aload_n 0, 1) := by decide +kernel
theorem dX3_takeOneOf_31 : decode cX3_takeOneOf 31 = .ok (.getfield 26, 3) := by decide +kernel
theorem dX3_takeOneOf_34 : decode cX3_takeOneOf 34 = .ok (.baload, 1) := by decide +kernel
theorem dX3_takeOneOf_35 : decode cX3_takeOneOf 35 = .ok (.sipush 255, 3) := by decide +kernel
theorem dX3_takeOneOf_38 : decode cX3_takeOneOf 38 = .ok (.iand, 1) := by decide +kernel
theorem dX3_takeOneOf_39 : decode cX3_takeOneOf 39 = .ok (.i2c, 1) := by decide +kernel
theorem dX3_takeOneOf_40 : decode cX3_takeOneOf 40 = .ok (.invokevirtual 119, 3) := by decide +kernel
theorem dX3_takeOneOf_43 : decode cX3_takeOneOf 43 = .ok (.istore_n 2, 1) := by decide +kernel
theorem dX3_takeOneOf_44 : decode cX3_takeOneOf 44 = .ok (.iload_n 2, 1) := by decide +kernel
theorem dX3_takeOneOf_45 : decode cX3_takeOneOf 45 = .ok (.ifCond .lt 13, 3) := by decide +kernel
theorem dX3_takeOneOf_48 : decode cX3_takeOneOf 48 = .ok (.aload_n 0, 1) := by decide +kernel
theorem dX3_takeOneOf_49 : decode cX3_takeOneOf 49 = .ok (.dup, 1) := by decide +kernel
theorem dX3_takeOneOf_50 : decode cX3_takeOneOf 50 = .ok (.getfield 26, 3) := by decide +kernel
theorem dX3_takeOneOf_53 : decode cX3_takeOneOf 53 = .ok (.iconst 1, 1) := by decide +kernel
theorem dX3_takeOneOf_54 : decode cX3_takeOneOf 54 = .ok (.iadd, 1) := by decide +kernel
theorem dX3_takeOneOf_55 : decode cX3_takeOneOf 55 = .ok (.putfield 26, 3) := by decide +kernel
theorem dX3_takeOneOf_58 : decode cX3_takeOneOf 58 = .ok (.iload_n 2, 1) := by decide +kernel
theorem dX3_takeOneOf_59 : decode cX3_takeOneOf 59 = .ok (.ireturn, 1) := by decide +kernel
theorem dX3_put_0 : decode cX3_put 0 = .ok (.aload_n 0, 1) := by decide +kernel
theorem dX3_put_1 : decode cX3_put 1 = .ok (.getfield 15, 3) := by decide +kernel
theorem dX3_put_4 : decode cX3_put 4 = .ok (.aload_n 0, 1) := by decide +kernel
theorem dX3_put_5 : decode cX3_put 5 = .ok (.getfield 9, 3) := by decide +kernel
theorem dX3_put_8 : decode cX3_put 8 = .ok (.arraylength, 1) := by decide +kernel
theorem dX3_put_9 : decode cX3_put 9 = .ok (.if_icmp .lt 5, 3) := by decide +kernel
theorem dX3_put_12 : decode cX3_put 12 = .ok (.iconst 0, 1) := by decide +kernel
theorem dX3_put_13 : decode cX3_put 13 = .ok (.ireturn, 1) := by decide +kernel
theorem dX3_put_14 : decode cX3_put 14 = .ok (.aload_n 0, 1) := by decide +kernel
theorem dX3_put_15 : decode cX3_put 15 = .ok (.getfield 9, 3) := by decide +kernel
theorem dX3_put_18 : decode cX3_put 18 = .ok (.aload_n 0, 1) := by decide +kernel
theorem dX3_put_19 : decode cX3_put 19 = .ok (.getfield 15, 3) := by decide +kernel
theorem dX3_put_22 : decode cX3_put 22 = .ok (.iload_n 1, 1) := by decide +kernel
theorem dX3_put_23 : decode cX3_put 23 = .ok (.iastore, 1) := by decide +kernel
theorem dX3_put_24 : decode cX3_put 24 = .ok (.aload_n 0, 1) := by decide +kernel
theorem dX3_put_25 : decode cX3_put 25 = .ok (.dup, 1) := by decide +kernel
theorem dX3_put_26 : decode cX3_put 26 = .ok (.getfield 15, 3) := by decide +kernel
theorem dX3_put_29 : decode cX3_put 29 = .ok (.iconst 1, 1) := by decide +kernel
theorem dX3_put_30 : decode cX3_put 30 = .ok (.iadd, 1) := by decide +kernel
theorem dX3_put_31 : decode cX3_put 31 = .ok (.putfield 15, 3) := by decide +kernel
theorem dX3_put_34 : decode cX3_put 34 = .ok (.iconst 1, 1) := by decide +kernel
theorem dX3_put_35 : decode cX3_put 35 = .ok (.ireturn, 1) := by decide +kernel
theorem dX4_init_0 : decode cX4_init 0 = .ok (.aload_n 0, 1) := by decide +kernel
theorem dX4_init_1 : decode cX4_init 1 = .ok (.invokespecial 3, 3) := by decide +kernel
theorem dX4_init_4 : decode cX4_init 4 = .ok (.aload_n 0, 1) := by decide +kernel
theorem dX4_init_5 : decode cX4_init 5 = .ok (.bipush 64, 2) := by decide +kernel
theorem dX4_init_7 : decode cX4_init 7 = .ok (.newarray .int, 2) := by decide +kernel
theorem dX4_init_9 : decode cX4_init 9 = .ok (.putfield 11, 3) := by decide +kernel
theorem dX4_init_12 : decode cX4_init 12 = .ok (.aload_n 0, 1) := by decide +kernel
theorem dX4_init_13 : decode cX4_init 13 = .ok (.bipush 64, 2) := by decide +kernel
theorem dX4_init_15 : decode cX4_init 15 = .ok (.newarray .long, 2) := by decide +kernel
theorem dX4_init_17 : decode cX4_init 17 = .ok (.putfield 15, 3) := by decide +kernel
theorem dX4_init_20 : decode cX4_init 20 = .ok (.aload_n 0, 1) := by decide +kernel
theorem dX4_init_21 : decode cX4_init 21 = .ok (.iconst 0, 1) := by decide +kernel
theorem dX4_init_22 : decode cX4_init 22 = .ok (.putfield 19, 3) := by decide +kernel
theorem dX4_init_25 : decode cX4_init 25 = .ok (.aload_n 0, 1) := by decide +kernel
theorem dX4_init_26 : decode cX4_init 26 = .ok (.bipush 64, 2) := by decide +kernel
theorem dX4_init_28 : decode cX4_init 28 = .ok (.newarray .int, 2) := by decide +kernel
theorem dX4_init_30 : decode cX4_init 30 = .ok (.putfield 23, 3) := by decide +kernel
theorem dX4_init_33 : decode cX4_init 33 = .ok (.aload_n 0, 1) := by decide +kernel
theorem dX4_init_34 : decode cX4_init 34 = .ok (.bipush 64, 2) := by decide +kernel
theorem dX4_init_36 : decode cX4_init 36 = .ok (.newarray .long, 2) := by decide +kernel
theorem dX4_init_38 : decode cX4_init 38 = .ok (.putfield 26, 3) := by decide +kernel
theorem dX4_init_41 : decode cX4_init 41 = .ok (.aload_n 0, 1) := by decide +kernel
theorem dX4_init_42 : decode cX4_init 42 = .ok (.iconst 0, 1) := by decide +kernel
theorem dX4_init_43 : decode cX4_init 43 = .ok (.putfield 29, 3) := by decide +kernel
theorem dX4_init_46 : decode cX4_init 46 = .ok (.aload_n 0, 1) := by decide +kernel
theorem dX4_init_47 : decode cX4_init 47 = .ok (.lconst 1, 1) := by decide +kernel
theorem dX4_init_48 : decode cX4_init 48 = .ok (.putfield 32, 3) := by decide +kernel
theorem dX4_init_51 : decode cX4_init 51 = .ok (.aload_n 0, 1) := by decide +kernel
theorem dX4_init_52 : decode cX4_init 52 = .ok (.bipush 6, 2) := by decide +kernel
theorem dX4_init_54 : decode cX4_init 54 = .ok (.newarray .int, 2) := by decide +kernel
theorem dX4_init_56 : decode cX4_init 56 = .ok (.putfield 36, 3) := by decide +kernel
theorem dX4_init_59 : decode cX4_init 59 = .ok (.aload_n 0, 1) := by decide +kernel
theorem dX4_init_60 : decode cX4_init 60 = .ok (.aload_n 1, 1) := by decide +kernel
theorem dX4_init_61 : decode cX4_init 61 = .ok (.putfield 39, 3) := by decide +kernel
theorem dX4_init_64 : decode cX4_init 64 = .ok (.return_, 1) := by decide +kernel
theorem dX4_startFrom_0 : decode cX4_startFrom 0 = .ok (.aload_n 0, 1) := by decide +kernel
theorem dX4_startFrom_1 : decode cX4_startFrom 1 = .ok (.lconst 1, 1) := by decide +kernel
theorem dX4_startFrom_2 : decode cX4_startFrom 2 = .ok (.putfield 32, 3) := by decide +kernel
theorem dX4_startFrom_5 : decode cX4_startFrom 5 = .ok (.aload_n 0, 1) := by decide +kernel
theorem dX4_startFrom_6 : decode cX4_startFrom 6 = .ok (.iconst 0, 1) := by decide +kernel
theorem dX4_startFrom_7 : decode cX4_startFrom 7 = .ok (.putfield 19, 3) := by decide +kernel
theorem dX4_startFrom_10 : decode cX4_startFrom 10 = .ok (.aload_n 0, 1) := by decide +kernel
theorem dX4_startFrom_11 : decode cX4_startFrom 11 = .ok (.aload_n 0, 1) := by decide +kernel
theorem dX4_startFrom_12 : decode cX4_startFrom 12 = .ok (.aload_n 1, 1) := by decide +kernel
theorem dX4_startFrom_13 : decode cX4_startFrom 13 = .ok (.invokevirtual 43, 3) := by decide +kernel
theorem dX4_startFrom_16 : decode cX4_startFrom 16 = .ok (.lconst 1, 1) := by decide +kernel
theorem dX4_startFrom_17 : decode cX4_startFrom 17 = .ok (.invokevirtual 47, 3) := by decide +kernel
theorem dX4_startFrom_20 : decode cX4_startFrom 20 = .ok (.return_, 1) := by decide +kernel
theorem dX4_goOn_0 : decode cX4_goOn 0 = .ok (.aload_n 0, 1) := by decide +kernel
theorem dX4_goOn_1 : decode cX4_goOn 1 = .ok (.invokevirtual 51, 3) := by decide +kernel
theorem dX4_goOn_4 : decode cX4_goOn 4 = .ok (.aload_n 0, 1) := by decide +kernel
theorem dX4_goOn_5 : decode cX4_goOn 5 = .ok (.getfield 39, 3) := by decide +kernel
theorem dX4_goOn_8 : decode cX4_goOn 8 = .ok (.getfield 54, 3) := by decide +kernel
theorem dX4_goOn_11 : decode cX4_goOn 11 = .ok (.ifCond .ne 4, 3) := by decide +kernel
theorem dX4_goOn_14 : decode cX4_goOn 14 = .ok (.return_, 1) := by decide +kernel
theorem dX4_goOn_15 : decode cX4_goOn 15 = .ok (.aload_n 0, 1) := by decide +kernel
theorem dX4_goOn_16 : decode cX4_goOn 16 = .ok (.getfield 39, 3) := by decide +kernel
theorem dX4_goOn_19 : decode cX4_goOn 19 = .ok (.iload_n 2, 1) := by decide +kernel
theorem dX4_goOn_20 : decode cX4_goOn 20 = .ok (.invokevirtual 59, 3) := by decide +kernel
theorem dX4_goOn_23 : decode cX4_goOn 23 = .ok (.istore 4, 2) := by decide +kernel
theorem dX4_goOn_25 : decode cX4_goOn 25 = .ok (.iconst 0, 1) := by decide +kernel
theorem dX4_goOn_26 : decode cX4_goOn 26 = .ok (.istore 5, 2) := by decide +kernel
theorem dX4_goOn_28 : decode cX4_goOn 28 = .ok (.iload 5, 2) := by decide +kernel
theorem dX4_goOn_30 : decode cX4_goOn 30 = .ok (.aload_n 0, 1) := by decide +kernel
theorem dX4_goOn_31 : decode cX4_goOn 31 = .ok (.getfield 29, 3) := by decide +kernel
theorem dX4_goOn_34 : decode cX4_goOn 34 = .ok (.if_icmp .ge 45, 3) := by decide +kernel
theorem dX4_goOn_37 : decode cX4_goOn 37 = .ok (.aload_n 0, 1) := by decide +kernel
theorem dX4_goOn_38 : decode cX4_goOn 38 = .ok (.aload_n 0, 1) := by decide +kernel
theorem dX4_goOn_39 : decode cX4_goOn 39 = .ok (.getfield 23, 3) := by decide +kernel
theorem dX4_goOn_42 : decode cX4_goOn 42 = .ok (.iload 5, 2) := by decide +kernel
theorem dX4_goOn_44 : decode cX4_goOn 44 = .ok (.iaload, 1) := by decide +kernel
theorem dX4_goOn_45 : decode cX4_goOn 45 = .ok (.invokevirtual 63, 3) := by decide +kernel
theorem dX4_goOn_48 : decode cX4_goOn 48 = .ok (.aload_n 0, 1) := by decide +kernel
theorem dX4_goOn_49 : decode cX4_goOn 49 = .ok (.aload_n 1, 1) := by decide +kernel
theorem dX4_goOn_50 : decode cX4_goOn 50 = .ok (.iload 4, 2) := by decide +kernel
theorem dX4_goOn_52 : decode cX4_goOn 52 = .ok (.aload_n 0, 1) := by decide +kernel
theorem dX4_goOn_53 : decode cX4_goOn 53 = .ok (.getfield 39, 3) := by decide +kernel
theorem dX4_goOn_56 : decode cX4_goOn 56 = .ok (.aload_n 1, 1) := by decide +kernel
theorem dX4_goOn_57 : decode cX4_goOn 57 = .ok (.aload_n 0, 1) := by decide +kernel
theorem dX4_goOn_58 : decode cX4_goOn 58 = .ok (.getfield 36, 3) := by decide +kernel
theorem dX4_goOn_61 : decode cX4_goOn 61 = .ok (.iload 4, 2) := by decide +kernel
theorem dX4_goOn_63 : decode cX4_goOn 63 = .ok (.iload_n 2, 1) := by decide +kernel
theorem dX4_goOn_64 : decode cX4_goOn 64 = .ok (.iload_n 3, 1) := by decide +kernel
theorem dX4_goOn_65 : decode cX4_goOn 65 = .ok (.invokevirtual 67, 3) := by decide +kernel
theorem dX4_goOn_68 : decode cX4_goOn 68 = .ok (.iload 5, 2) := by decide +kernel
theorem dX4_goOn_70 : decode cX4_goOn 70 = .ok (.invokevirtual 71, 3) := by decide +kernel
theorem dX4_goOn_73 : decode cX4_goOn 73 = .ok (.iinc 5 1, 3) := by decide +kernel
theorem dX4_goOn_76 : decode cX4_goOn 76 = .ok (.goto (-48), 3) := by decide +kernel
theorem dX4_goOn_79 : decode cX4_goOn 79 = .ok (.return_, 1) := by decide +kernel
theorem dX4_goOnAsking_0 : decode cX4_goOnAsking 0 = .ok (.aload_n 0, 1) := by decide +kernel
theorem dX4_goOnAsking_1 : decode cX4_goOnAsking 1 = .ok (.invokevirtual 51, 3) := by decide +kernel
theorem dX4_goOnAsking_4 : decode cX4_goOnAsking 4 = .ok (.aload_n 0, 1) := by decide +kernel
theorem dX4_goOnAsking_5 : decode cX4_goOnAsking 5 = .ok (.getfield 39, 3) := by decide +kernel
theorem dX4_goOnAsking_8 : decode cX4_goOnAsking 8 = .ok (.getfield 54, 3) := by decide +kernel
theorem dX4_goOnAsking_11 : decode cX4_goOnAsking 11 = .ok (.ifCond .le 35, 3) := by decide +kernel
theorem dX4_goOnAsking_14 : decode cX4_goOnAsking 14 = .ok (.aload_n 0, 1) := by decide +kernel
theorem dX4_goOnAsking_15 : decode cX4_goOnAsking 15 = .ok (.getfield 29, 3) := by decide +kernel
theorem dX4_goOnAsking_18 : decode cX4_goOnAsking 18 = .ok (.ifCond .le 28, 3) := by decide +kernel
theorem dX4_goOnAsking_21 : decode cX4_goOnAsking 21 = .ok (.aload_n 0, 1) := by decide +kernel
theorem dX4_goOnAsking_22 : decode cX4_goOnAsking 22 = .ok (.aload_n 0, 1) := by decide +kernel
theorem dX4_goOnAsking_23 : decode cX4_goOnAsking 23 = .ok (.getfield 23, 3) := by decide +kernel
theorem dX4_goOnAsking_26 : decode cX4_goOnAsking 26 = .ok (.iconst 0, 1) := by decide +kernel
theorem dX4_goOnAsking_27 : decode cX4_goOnAsking 27 = .ok (.iaload, 1) := by decide +kernel
theorem dX4_goOnAsking_28 : decode cX4_goOnAsking 28 = .ok (.invokevirtual 63, 3) := by decide +kernel
theorem dX4_goOnAsking_31 : decode cX4_goOnAsking 31 = .ok (.aload_n 0, 1) := by decide +kernel
theorem dX4_goOnAsking_32 : decode cX4_goOnAsking 32 = .ok (.aload_n 1, 1) := by decide +kernel
theorem dX4_goOnAsking_33 : decode cX4_goOnAsking 33 = .ok (.aload_n 0, 1) := by decide +kernel
theorem dX4_goOnAsking_34 : decode cX4_goOnAsking 34 = .ok (.getfield 39, 3) := by decide +kernel
theorem dX4_goOnAsking_37 : decode cX4_goOnAsking 37 = .ok (.iload_n 2, 1) := by decide +kernel
theorem dX4_goOnAsking_38 : decode cX4_goOnAsking 38 = .ok (.invokevirtual 59, 3) := by decide +kernel
theorem dX4_goOnAsking_41 : decode cX4_goOnAsking 41 = .ok (.iload_n 3, 1) := by decide +kernel
theorem dX4_goOnAsking_42 : decode cX4_goOnAsking 42 = .ok (.iconst 0, 1) := by decide +kernel
theorem dX4_goOnAsking_43 : decode cX4_goOnAsking 43 = .ok (.invokevirtual 71, 3) := by decide +kernel
theorem dX4_goOnAsking_46 : decode cX4_goOnAsking 46 = .ok (.return_, 1) := by decide +kernel
theorem dX4_beginDay_0 : decode cX4_beginDay 0 = .ok (.aload_n 0, 1) := by decide +kernel
theorem dX4_beginDay_1 : decode cX4_beginDay 1 = .ok (.getfield 23, 3) := by decide +kernel
theorem dX4_beginDay_4 : decode cX4_beginDay 4 = .ok (.astore_n 1, 1) := by decide +kernel
theorem dX4_beginDay_5 : decode cX4_beginDay 5 = .ok (.aload_n 0, 1) := by decide +kernel
theorem dX4_beginDay_6 : decode cX4_beginDay 6 = .ok (.getfield 26, 3) := by decide +kernel
theorem dX4_beginDay_9 : decode cX4_beginDay 9 = .ok (.astore_n 2, 1) := by decide +kernel
theorem dX4_beginDay_10 : decode cX4_beginDay 10 = .ok (.aload_n 0, 1) := by decide +kernel
theorem dX4_beginDay_11 : decode cX4_beginDay 11 = .ok (.aload_n 0, 1) := by decide +kernel
theorem dX4_beginDay_12 : decode cX4_beginDay 12 = .ok (.getfield 11, 3) := by decide +kernel
theorem dX4_beginDay_15 : decode cX4_beginDay 15 = .ok (.putfield 23, 3) := by decide +kernel
theorem dX4_beginDay_18 : decode cX4_beginDay 18 = .ok (.aload_n 0, 1) := by decide +kernel
theorem dX4_beginDay_19 : decode cX4_beginDay 19 = .ok (.aload_n 0, 1) := by decide +kernel
theorem dX4_beginDay_20 : decode cX4_beginDay 20 = .ok (.getfield 15, 3) := by decide +kernel
theorem dX4_beginDay_23 : decode cX4_beginDay 23 = .ok (.putfield 26, 3) := by decide +kernel
theorem dX4_beginDay_26 : decode cX4_beginDay 26 = .ok (.aload_n 0, 1) := by decide +kernel
theorem dX4_beginDay_27 : decode cX4_beginDay 27 = .ok (.aload_n 0, 1) := by decide +kernel
theorem dX4_beginDay_28 : decode cX4_beginDay 28 = .ok (.getfield 19, 3) := by decide +kernel
theorem dX4_beginDay_31 : decode cX4_beginDay 31 = .ok (.putfield 29, 3) := by decide +kernel
theorem dX4_beginDay_34 : decode cX4_beginDay 34 = .ok (.aload_n 0, 1) := by decide +kernel
theorem dX4_beginDay_35 : decode cX4_beginDay 35 = .ok (.aload_n 1, 1) := by decide +kernel
theorem dX4_beginDay_36 : decode cX4_beginDay 36 = .ok (.putfield 11, 3) := by decide +kernel
theorem dX4_beginDay_39 : decode cX4_beginDay 39 = .ok (.aload_n 0, 1) := by decide +kernel
theorem dX4_beginDay_40 : decode cX4_beginDay 40 = .ok (.aload_n 2, 1) := by decide +kernel
theorem dX4_beginDay_41 : decode cX4_beginDay 41 = .ok (.putfield 15, 3) := by decide +kernel
theorem dX4_beginDay_44 : decode cX4_beginDay 44 = .ok (.aload_n 0, 1) := by decide +kernel
theorem dX4_beginDay_45 : decode cX4_beginDay 45 = .ok (.iconst 0, 1) := by decide +kernel
theorem dX4_beginDay_46 : decode cX4_beginDay 46 = .ok (.putfield 19, 3) := by decide +kernel
theorem dX4_beginDay_49 : decode cX4_beginDay 49 = .ok (.aload_n 0, 1) := by decide +kernel
theorem dX4_beginDay_50 : decode cX4_beginDay 50 = .ok (.dup, 1) := by decide +kernel
theorem dX4_beginDay_51 : decode cX4_beginDay 51 = .ok (.getfield 32, 3) := by decide +kernel
theorem dX4_beginDay_54 : decode cX4_beginDay 54 = .ok (.ldc2_w 75, 3) := by decide +kernel
theorem dX4_beginDay_57 : decode cX4_beginDay 57 = .ok (.lmul, 1) := by decide +kernel
theorem dX4_beginDay_58 : decode cX4_beginDay 58 = .ok (.putfield 32, 3) := by decide +kernel
theorem dX4_beginDay_61 : decode cX4_beginDay 61 = .ok (.return_, 1) := by decide +kernel
theorem dX4_play_0 : decode cX4_play 0 = .ok (.iload_n 3, 1) := by decide +kernel
theorem dX4_play_1 : decode cX4_play 1 = .ok (.bipush (-5), 2) := by decide +kernel
theorem dX4_play_3 : decode cX4_play 3 = .ok (.if_icmp .ne 26, 3) := by decide +kernel
theorem dX4_play_6 : decode cX4_play 6 = .ok (.aload_n 0, 1) := by decide +kernel
theorem dX4_play_7 : decode cX4_play 7 = .ok (.aload_n 0, 1) := by decide +kernel
theorem dX4_play_8 : decode cX4_play 8 = .ok (.getfield 23, 3) := by decide +kernel
theorem dX4_play_11 : decode cX4_play 11 = .ok (.iload 4, 2) := by decide +kernel
theorem dX4_play_13 : decode cX4_play 13 = .ok (.iaload, 1) := by decide +kernel
theorem dX4_play_14 : decode cX4_play 14 = .ok (.aload_n 0, 1) := by decide +kernel
theorem dX4_play_15 : decode cX4_play 15 = .ok (.getfield 26, 3) := by decide +kernel
theorem dX4_play_18 : decode cX4_play 18 = .ok (.iload 4, 2) := by decide +kernel
theorem dX4_play_20 : decode cX4_play 20 = .ok (.laload, 1) := by decide +kernel
theorem dX4_play_21 : decode cX4_play 21 = .ok (.ldc2_w 75, 3) := by decide +kernel
theorem dX4_play_24 : decode cX4_play 24 = .ok (.lmul, 1) := by decide +kernel
theorem dX4_play_25 : decode cX4_play 25 = .ok (.invokevirtual 47, 3) := by decide +kernel
theorem dX4_play_28 : decode cX4_play 28 = .ok (.return_, 1) := by decide +kernel
theorem dX4_play_29 : decode cX4_play 29 = .ok (.aload_n 0, 1) := by decide +kernel
theorem dX4_play_30 : decode cX4_play 30 = .ok (.getfield 39, 3) := by decide +kernel
theorem dX4_play_33 : decode cX4_play 33 = .ok (.getfield 77, 3) := by decide +kernel
theorem dX4_play_36 : decode cX4_play 36 = .ok (.aload_n 0, 1) := by decide +kernel
theorem dX4_play_37 : decode cX4_play 37 = .ok (.getfield 36, 3) := by decide +kernel
theorem dX4_play_40 : decode cX4_play 40 = .ok (.iload_n 2, 1) := by decide +kernel
theorem dX4_play_41 : decode cX4_play 41 = .ok (.iaload, 1) := by decide +kernel
theorem dX4_play_42 : decode cX4_play 42 = .ok (.aaload, 1) := by decide +kernel
theorem dX4_play_43 : decode cX4_play 43 = .ok (.iload_n 3, 1) := by decide +kernel
theorem dX4_play_44 : decode cX4_play 44 = .ok (.iaload, 1) := by decide +kernel
theorem dX4_play_45 : decode cX4_play 45 = .ok (.istore 5, 2) := by decide +kernel
theorem dX4_play_47 : decode cX4_play 47 = .ok (.aload_n 0, 1) := by decide +kernel
theorem dX4_play_48 : decode cX4_play 48 = .ok (.aload_n 0, 1) := by decide +kernel
theorem dX4_play_49 : decode cX4_play 49 = .ok (.getfield 23, 3) := by decide +kernel
theorem dX4_play_52 : decode cX4_play 52 = .ok (.iload 4, 2) := by decide +kernel
theorem dX4_play_54 : decode cX4_play 54 = .ok (.iaload, 1) := by decide +kernel
theorem dX4_play_55 : decode cX4_play 55 = .ok (.aload_n 0, 1) := by decide +kernel
theorem dX4_play_56 : decode cX4_play 56 = .ok (.getfield 26, 3) := by decide +kernel
theorem dX4_play_59 : decode cX4_play 59 = .ok (.iload 4, 2) := by decide +kernel
theorem dX4_play_61 : decode cX4_play 61 = .ok (.laload, 1) := by decide +kernel
theorem dX4_play_62 : decode cX4_play 62 = .ok (.bipush 100, 2) := by decide +kernel
theorem dX4_play_64 : decode cX4_play 64 = .ok (.iload 5, 2) := by decide +kernel
theorem dX4_play_66 : decode cX4_play 66 = .ok (.isub, 1) := by decide +kernel
theorem dX4_play_67 : decode cX4_play 67 = .ok (.i2l, 1) := by decide +kernel
theorem dX4_play_68 : decode cX4_play 68 = .ok (.lmul, 1) := by decide +kernel
theorem dX4_play_69 : decode cX4_play 69 = .ok (.invokevirtual 47, 3) := by decide +kernel
theorem dX4_play_72 : decode cX4_play 72 = .ok (.iconst 0, 1) := by decide +kernel
theorem dX4_play_73 : decode cX4_play 73 = .ok (.istore 6, 2) := by decide +kernel
theorem dX4_play_75 : decode cX4_play 75 = .ok (.iload 6, 2) := by decide +kernel
theorem dX4_play_77 : decode cX4_play 77 = .ok (.iload_n 2, 1) := by decide +kernel
theorem dX4_play_78 : decode cX4_play 78 = .ok (.if_icmp .ge 34, 3) := by decide +kernel
theorem dX4_play_81 : decode cX4_play 81 = .ok (.aload_n 0, 1) := by decide +kernel
theorem dX4_play_82 : decode cX4_play 82 = .ok (.getfield 36, 3) := by decide +kernel
theorem dX4_play_85 : decode cX4_play 85 = .ok (.iload 6, 2) := by decide +kernel
theorem dX4_play_87 : decode cX4_play 87 = .ok (.iaload, 1) := by decide +kernel
theorem dX4_play_88 : decode cX4_play 88 = .ok (.iload_n 3, 1) := by decide +kernel
theorem dX4_play_89 : decode cX4_play 89 = .ok (.if_icmp .ne 17, 3) := by decide +kernel
theorem dX4_play_92 : decode cX4_play 92 = .ok (.aload_n 1, 1) := by decide +kernel
theorem dX4_play_93 : decode cX4_play 93 = .ok (.aload_n 0, 1) := by decide +kernel
theorem dX4_play_94 : decode cX4_play 94 = .ok (.getfield 36, 3) := by decide +kernel
theorem dX4_play_97 : decode cX4_play 97 = .ok (.iload_n 2, 1) := by decide +kernel
theorem dX4_play_98 : decode cX4_play 98 = .ok (.iload 6, 2) := by decide +kernel
theorem dX4_play_100 : decode cX4_play 100 = .ok (.invokevirtual 81, 3) := by decide +kernel
theorem dX4_play_103 : decode cX4_play 103 = .ok (.goto 9, 3) := by decide +kernel
theorem dX4_play_106 : decode cX4_play 106 = .ok (.iinc 6 1, 3) := by decide +kernel
theorem dX4_play_109 : decode cX4_play 109 = .ok (.goto (-34), 3) := by decide +kernel
theorem dX4_play_112 : decode cX4_play 112 = .ok (.aload_n 0, 1) := by decide +kernel
theorem dX4_play_113 : decode cX4_play 113 = .ok (.aload_n 0, 1) := by decide +kernel
theorem dX4_play_114 : decode cX4_play 114 = .ok (.aload_n 0, 1) := by decide +kernel
theorem dX4_play_115 : decode cX4_play 115 = .ok (.getfield 36, 3) := by decide +kernel
theorem dX4_play_118 : decode cX4_play 118 = .ok (.invokevirtual 43, 3) := by decide +kernel
theorem dX4_play_121 : decode cX4_play 121 = .ok (.aload_n 0, 1) := by decide +kernel
theorem dX4_play_122 : decode cX4_play 122 = .ok (.getfield 26, 3) := by decide +kernel
theorem dX4_play_125 : decode cX4_play 125 = .ok (.iload 4, 2) := by decide +kernel
theorem dX4_play_127 : decode cX4_play 127 = .ok (.laload, 1) := by decide +kernel
theorem dX4_play_128 : decode cX4_play 128 = .ok (.iload 5, 2) := by decide +kernel
theorem dX4_play_130 : decode cX4_play 130 = .ok (.i2l, 1) := by decide +kernel
theorem dX4_play_131 : decode cX4_play 131 = .ok (.lmul, 1) := by decide +kernel
theorem dX4_play_132 : decode cX4_play 132 = .ok (.invokevirtual 47, 3) := by decide +kernel
theorem dX4_play_135 : decode cX4_play 135 = .ok (.return_, 1) := by decide +kernel
theorem dX4_add_0 : decode cX4_add 0 = .ok (.lload_n 2, 1) := by decide +kernel
theorem dX4_add_1 : decode cX4_add 1 = .ok (.lconst 0, 1) := by decide +kernel
theorem dX4_add_2 : decode cX4_add 2 = .ok (.lcmp, 1) := by decide +kernel
theorem dX4_add_3 : decode cX4_add 3 = .ok (.ifCond .ne 4, 3) := by decide +kernel
theorem dX4_add_6 : decode cX4_add 6 = .ok (.return_, 1) := by decide +kernel
theorem dX4_add_7 : decode cX4_add 7 = .ok (.iconst 0, 1) := by decide +kernel
theorem dX4_add_8 : decode cX4_add 8 = .ok (.istore 4, 2) := by decide +kernel
theorem dX4_add_10 : decode cX4_add 10 = .ok (.iload 4, 2) := by decide +kernel
theorem dX4_add_12 : decode cX4_add 12 = .ok (.aload_n 0, 1) := by decide +kernel
theorem dX4_add_13 : decode cX4_add 13 = .ok (.getfield 19, 3) := by decide +kernel
theorem dX4_add_16 : decode cX4_add 16 = .ok (.if_icmp .ge 32, 3) := by decide +kernel
theorem dX4_add_19 : decode cX4_add 19 = .ok (.aload_n 0, 1) := by decide +kernel
theorem dX4_add_20 : decode cX4_add 20 = .ok (.getfield 11, 3) := by decide +kernel
theorem dX4_add_23 : decode cX4_add 23 = .ok (.iload 4, 2) := by decide +kernel
theorem dX4_add_25 : decode cX4_add 25 = .ok (.iaload, 1) := by decide +kernel
theorem dX4_add_26 : decode cX4_add 26 = .ok (.iload_n 1, 1) := by decide +kernel
theorem dX4_add_27 : decode cX4_add 27 = .ok (.if_icmp .ne 15, 3) := by decide +kernel
theorem dX4_add_30 : decode cX4_add 30 = .ok (.aload_n 0, 1) := by decide +kernel
theorem dX4_add_31 : decode cX4_add 31 = .ok (.getfield 15, 3) := by decide +kernel
theorem dX4_add_34 : decode cX4_add 34 = .ok (.iload 4, 2) := by decide +kernel
theorem dX4_add_36 : decode cX4_add 36 = .ok (.dup2, 1) := by decide +kernel
theorem dX4_add_37 : decode cX4_add 37 = .ok (.laload, 1) := by decide +kernel
theorem dX4_add_38 : decode cX4_add 38 = .ok (.lload_n 2, 1) := by decide +kernel
theorem dX4_add_39 : decode cX4_add 39 = .ok (.ladd, 1) := by decide +kernel
theorem dX4_add_40 : decode cX4_add 40 = .ok (.lastore, 1) := by decide +kernel
theorem dX4_add_41 : decode cX4_add 41 = .ok (.return_, 1) := by decide +kernel
theorem dX4_add_42 : decode cX4_add 42 = .ok (.iinc 4 1, 3) := by decide +kernel
theorem dX4_add_45 : decode cX4_add 45 = .ok (.goto (-35), 3) := by decide +kernel
theorem dX4_add_48 : decode cX4_add 48 = .ok (.aload_n 0, 1) := by decide +kernel
theorem dX4_add_49 : decode cX4_add 49 = .ok (.getfield 19, 3) := by decide +kernel
theorem dX4_add_52 : decode cX4_add 52 = .ok (.bipush 64, 2) := by decide +kernel
theorem dX4_add_54 : decode cX4_add 54 = .ok (.if_icmp .ge 33, 3) := by decide +kernel
theorem dX4_add_57 : decode cX4_add 57 = .ok (.aload_n 0, 1) := by decide +kernel
theorem dX4_add_58 : decode cX4_add 58 = .ok (.getfield 11, 3) := by decide +kernel
theorem dX4_add_61 : decode cX4_add 61 = .ok (.aload_n 0, 1) := by decide +kernel
theorem dX4_add_62 : decode cX4_add 62 = .ok (.getfield 19, 3) := by decide +kernel
theorem dX4_add_65 : decode cX4_add 65 = .ok (.iload_n 1, 1) := by decide +kernel
theorem dX4_add_66 : decode cX4_add 66 = .ok (.iastore, 1) := by decide +kernel
theorem dX4_add_67 : decode cX4_add 67 = .ok (.aload_n 0, 1) := by decide +kernel
theorem dX4_add_68 : decode cX4_add 68 = .ok (.getfield 15, 3) := by decide +kernel
theorem dX4_add_71 : decode cX4_add 71 = .ok (.aload_n 0, 1) := by decide +kernel
theorem dX4_add_72 : decode cX4_add 72 = .ok (.getfield 19, 3) := by decide +kernel
theorem dX4_add_75 : decode cX4_add 75 = .ok (.lload_n 2, 1) := by decide +kernel
theorem dX4_add_76 : decode cX4_add 76 = .ok (.lastore, 1) := by decide +kernel
theorem dX4_add_77 : decode cX4_add 77 = .ok (.aload_n 0, 1) := by decide +kernel
theorem dX4_add_78 : decode cX4_add 78 = .ok (.dup, 1) := by decide +kernel
theorem dX4_add_79 : decode cX4_add 79 = .ok (.getfield 19, 3) := by decide +kernel
theorem dX4_add_82 : decode cX4_add 82 = .ok (.iconst 1, 1) := by decide +kernel
theorem dX4_add_83 : decode cX4_add 83 = .ok (.iadd, 1) := by decide +kernel
theorem dX4_add_84 : decode cX4_add 84 = .ok (.putfield 19, 3) := by decide +kernel
theorem dX4_add_87 : decode cX4_add 87 = .ok (.return_, 1) := by decide +kernel
theorem dX4_numberOf_0 : decode cX4_numberOf 0 = .ok (.iconst 0, 1) := by decide +kernel
theorem dX4_numberOf_1 : decode cX4_numberOf 1 = .ok (.istore_n 2, 1) := by decide +kernel
theorem dX4_numberOf_2 : decode cX4_numberOf 2 = .ok (.iconst 0, 1) := by decide +kernel
theorem dX4_numberOf_3 : decode cX4_numberOf 3 = .ok (.istore_n 3, 1) := by decide +kernel
theorem dX4_numberOf_4 : decode cX4_numberOf 4 = .ok (.iload_n 3, 1) := by decide +kernel
theorem dX4_numberOf_5 : decode cX4_numberOf 5 = .ok (.aload_n 0, 1) := by decide +kernel
theorem dX4_numberOf_6 : decode cX4_numberOf 6 = .ok (.getfield 39, 3) := by decide +kernel
theorem dX4_numberOf_9 : decode cX4_numberOf 9 = .ok (.getfield 54, 3) := by decide +kernel
theorem dX4_numberOf_12 : decode cX4_numberOf 12 = .ok (.if_icmp .ge 17, 3) := by decide +kernel
theorem dX4_numberOf_15 : decode cX4_numberOf 15 = .ok (.iload_n 2, 1) := by decide +kernel
theorem dX4_numberOf_16 : decode cX4_numberOf 16 = .ok (.iconst 3, 1) := by decide +kernel
theorem dX4_numberOf_17 : decode cX4_numberOf 17 = .ok (.ishl, 1) := by decide +kernel
theorem dX4_numberOf_18 : decode cX4_numberOf 18 = .ok (.aload_n 1, 1) := by decide +kernel
theorem dX4_numberOf_19 : decode cX4_numberOf 19 = .ok (.iload_n 3, 1) := by decide +kernel
theorem dX4_numberOf_20 : decode cX4_numberOf 20 = .ok (.iaload, 1) := by decide +kernel
theorem dX4_numberOf_21 : decode cX4_numberOf 21 = .ok (.ior, 1) := by decide +kernel
theorem dX4_numberOf_22 : decode cX4_numberOf 22 = .ok (.istore_n 2, 1) := by decide +kernel
theorem dX4_numberOf_23 : decode cX4_numberOf 23 = .ok (.iinc 3 1, 3) := by decide +kernel
theorem dX4_numberOf_26 : decode cX4_numberOf 26 = .ok (.goto (-22), 3) := by decide +kernel
theorem dX4_numberOf_29 : decode cX4_numberOf 29 = .ok (.iload_n 2, 1) := by decide +kernel
theorem dX4_numberOf_30 : decode cX4_numberOf 30 = .ok (.ireturn, 1) := by decide +kernel
theorem dX4_nameOn_0 : decode cX4_nameOn 0 = .ok (.iload_n 1, 1) := by decide +kernel
theorem dX4_nameOn_1 : decode cX4_nameOn 1 = .ok (.iconst 3, 1) := by decide +kernel
theorem dX4_nameOn_2 : decode cX4_nameOn 2 = .ok (.aload_n 0, 1) := by decide +kernel
theorem dX4_nameOn_3 : decode cX4_nameOn 3 = .ok (.getfield 39, 3) := by decide +kernel
theorem dX4_nameOn_6 : decode cX4_nameOn 6 = .ok (.getfield 54, 3) := by decide +kernel
theorem dX4_nameOn_9 : decode cX4_nameOn 9 = .ok (.iconst 1, 1) := by decide +kernel
theorem dX4_nameOn_10 : decode cX4_nameOn 10 = .ok (.isub, 1) := by decide +kernel
theorem dX4_nameOn_11 : decode cX4_nameOn 11 = .ok (.iload_n 2, 1) := by decide +kernel
theorem dX4_nameOn_12 : decode cX4_nameOn 12 = .ok (.isub, 1) := by decide +kernel
theorem dX4_nameOn_13 : decode cX4_nameOn 13 = .ok (.imul, 1) := by decide +kernel
theorem dX4_nameOn_14 : decode cX4_nameOn 14 = .ok (.ishr, 1) := by decide +kernel
theorem dX4_nameOn_15 : decode cX4_nameOn 15 = .ok (.bipush 7, 2) := by decide +kernel
theorem dX4_nameOn_17 : decode cX4_nameOn 17 = .ok (.iand, 1) := by decide +kernel
theorem dX4_nameOn_18 : decode cX4_nameOn 18 = .ok (.ireturn, 1) := by decide +kernel
theorem dX4_lay_0 : decode cX4_lay 0 = .ok (.iconst 0, 1) := by decide +kernel
theorem dX4_lay_1 : decode cX4_lay 1 = .ok (.istore_n 2, 1) := by decide +kernel
theorem dX4_lay_2 : decode cX4_lay 2 = .ok (.iload_n 2, 1) := by decide +kernel
theorem dX4_lay_3 : decode cX4_lay 3 = .ok (.aload_n 0, 1) := by decide +kernel
theorem dX4_lay_4 : decode cX4_lay 4 = .ok (.getfield 39, 3) := by decide +kernel
theorem dX4_lay_7 : decode cX4_lay 7 = .ok (.getfield 54, 3) := by decide +kernel
theorem dX4_lay_10 : decode cX4_lay 10 = .ok (.if_icmp .ge 21, 3) := by decide +kernel
theorem dX4_lay_13 : decode cX4_lay 13 = .ok (.aload_n 0, 1) := by decide +kernel
theorem dX4_lay_14 : decode cX4_lay 14 = .ok (.getfield 36, 3) := by decide +kernel
theorem dX4_lay_17 : decode cX4_lay 17 = .ok (.iload_n 2, 1) := by decide +kernel
theorem dX4_lay_18 : decode cX4_lay 18 = .ok (.aload_n 0, 1) := by decide +kernel
theorem dX4_lay_19 : decode cX4_lay 19 = .ok (.iload_n 1, 1) := by decide +kernel
theorem dX4_lay_20 : decode cX4_lay 20 = .ok (.iload_n 2, 1) := by decide +kernel
theorem dX4_lay_21 : decode cX4_lay 21 = .ok (.invokevirtual 87, 3) := by decide +kernel
theorem dX4_lay_24 : decode cX4_lay 24 = .ok (.iastore, 1) := by decide +kernel
theorem dX4_lay_25 : decode cX4_lay 25 = .ok (.iinc 2 1, 3) := by decide +kernel
theorem dX4_lay_28 : decode cX4_lay 28 = .ok (.goto (-26), 3) := by decide +kernel
theorem dX4_lay_31 : decode cX4_lay 31 = .ok (.return_, 1) := by decide +kernel
theorem dX4_whole_0 : decode cX4_whole 0 = .ok (.aload_n 0, 1) := by decide +kernel
theorem dX4_whole_1 : decode cX4_whole 1 = .ok (.getfield 32, 3) := by decide +kernel
theorem dX4_whole_4 : decode cX4_whole 4 = .ok (.lreturn, 1) := by decide +kernel
theorem dX4_onRung_0 : decode cX4_onRung 0 = .ok (.lconst 0, 1) := by decide +kernel
theorem dX4_onRung_1 : decode cX4_onRung 1 = .ok (.lstore_n 3, 1) := by decide +kernel
theorem dX4_onRung_2 : decode cX4_onRung 2 = .ok (.iconst 0, 1) := by decide +kernel
theorem dX4_onRung_3 : decode cX4_onRung 3 = .ok (.istore 5, 2) := by decide +kernel
theorem dX4_onRung_5 : decode cX4_onRung 5 = .ok (.iload 5, 2) := by decide +kernel
theorem dX4_onRung_7 : decode cX4_onRung 7 = .ok (.aload_n 0, 1) := by decide +kernel
theorem dX4_onRung_8 : decode cX4_onRung 8 = .ok (.getfield 19, 3) := by decide +kernel
theorem dX4_onRung_11 : decode cX4_onRung 11 = .ok (.if_icmp .ge 35, 3) := by decide +kernel
theorem dX4_onRung_14 : decode cX4_onRung 14 = .ok (.aload_n 0, 1) := by decide +kernel
theorem dX4_onRung_15 : decode cX4_onRung 15 = .ok (.aload_n 0, 1) := by decide +kernel
theorem dX4_onRung_16 : decode cX4_onRung 16 = .ok (.getfield 11, 3) := by decide +kernel
theorem dX4_onRung_19 : decode cX4_onRung 19 = .ok (.iload 5, 2) := by decide +kernel
theorem dX4_onRung_21 : decode cX4_onRung 21 = .ok (.iaload, 1) := by decide +kernel
theorem dX4_onRung_22 : decode cX4_onRung 22 = .ok (.iload_n 2, 1) := by decide +kernel
theorem dX4_onRung_23 : decode cX4_onRung 23 = .ok (.invokevirtual 87, 3) := by decide +kernel
theorem dX4_onRung_26 : decode cX4_onRung 26 = .ok (.iload_n 1, 1) := by decide +kernel
theorem dX4_onRung_27 : decode cX4_onRung 27 = .ok (.if_icmp .ne 13, 3) := by decide +kernel
theorem dX4_onRung_30 : decode cX4_onRung 30 = .ok (.lload_n 3, 1) := by decide +kernel
theorem dX4_onRung_31 : decode cX4_onRung 31 = .ok (.aload_n 0, 1) := by decide +kernel
theorem dX4_onRung_32 : decode cX4_onRung 32 = .ok (.getfield 15, 3) := by decide +kernel
theorem dX4_onRung_35 : decode cX4_onRung 35 = .ok (.iload 5, 2) := by decide +kernel
theorem dX4_onRung_37 : decode cX4_onRung 37 = .ok (.laload, 1) := by decide +kernel
theorem dX4_onRung_38 : decode cX4_onRung 38 = .ok (.ladd, 1) := by decide +kernel
theorem dX4_onRung_39 : decode cX4_onRung 39 = .ok (.lstore_n 3, 1) := by decide +kernel
theorem dX4_onRung_40 : decode cX4_onRung 40 = .ok (.iinc 5 1, 3) := by decide +kernel
theorem dX4_onRung_43 : decode cX4_onRung 43 = .ok (.goto (-38), 3) := by decide +kernel
theorem dX4_onRung_46 : decode cX4_onRung 46 = .ok (.lload_n 3, 1) := by decide +kernel
theorem dX4_onRung_47 : decode cX4_onRung 47 = .ok (.lreturn, 1) := by decide +kernel
theorem dX4_sumOfRungs_0 : decode cX4_sumOfRungs 0 = .ok (.lconst 0, 1) := by decide +kernel
theorem dX4_sumOfRungs_1 : decode cX4_sumOfRungs 1 = .ok (.lstore_n 2, 1) := by decide +kernel
theorem dX4_sumOfRungs_2 : decode cX4_sumOfRungs 2 = .ok (.iconst 1, 1) := by decide +kernel
theorem dX4_sumOfRungs_3 : decode cX4_sumOfRungs 3 = .ok (.istore 4, 2) := by decide +kernel
theorem dX4_sumOfRungs_5 : decode cX4_sumOfRungs 5 = .ok (.iload 4, 2) := by decide +kernel
theorem dX4_sumOfRungs_7 : decode cX4_sumOfRungs 7 = .ok (.aload_n 0, 1) := by decide +kernel
theorem dX4_sumOfRungs_8 : decode cX4_sumOfRungs 8 = .ok (.getfield 39, 3) := by decide +kernel
theorem dX4_sumOfRungs_11 : decode cX4_sumOfRungs 11 = .ok (.getfield 54, 3) := by decide +kernel
theorem dX4_sumOfRungs_14 : decode cX4_sumOfRungs 14 = .ok (.if_icmp .ge 23, 3) := by decide +kernel
theorem dX4_sumOfRungs_17 : decode cX4_sumOfRungs 17 = .ok (.lload_n 2, 1) := by decide +kernel
theorem dX4_sumOfRungs_18 : decode cX4_sumOfRungs 18 = .ok (.iload 4, 2) := by decide +kernel
theorem dX4_sumOfRungs_20 : decode cX4_sumOfRungs 20 = .ok (.i2l, 1) := by decide +kernel
theorem dX4_sumOfRungs_21 : decode cX4_sumOfRungs 21 = .ok (.aload_n 0, 1) := by decide +kernel
theorem dX4_sumOfRungs_22 : decode cX4_sumOfRungs 22 = .ok (.iload_n 1, 1) := by decide +kernel
theorem dX4_sumOfRungs_23 : decode cX4_sumOfRungs 23 = .ok (.iload 4, 2) := by decide +kernel
theorem dX4_sumOfRungs_25 : decode cX4_sumOfRungs 25 = .ok (.invokevirtual 91, 3) := by decide +kernel
theorem dX4_sumOfRungs_28 : decode cX4_sumOfRungs 28 = .ok (.lmul, 1) := by decide +kernel
theorem dX4_sumOfRungs_29 : decode cX4_sumOfRungs 29 = .ok (.ladd, 1) := by decide +kernel
theorem dX4_sumOfRungs_30 : decode cX4_sumOfRungs 30 = .ok (.lstore_n 2, 1) := by decide +kernel
theorem dX4_sumOfRungs_31 : decode cX4_sumOfRungs 31 = .ok (.iinc 4 1, 3) := by decide +kernel
theorem dX4_sumOfRungs_34 : decode cX4_sumOfRungs 34 = .ok (.goto (-29), 3) := by decide +kernel
theorem dX4_sumOfRungs_37 : decode cX4_sumOfRungs 37 = .ok (.lload_n 2, 1) := by decide +kernel
theorem dX4_sumOfRungs_38 : decode cX4_sumOfRungs 38 = .ok (.lreturn, 1) := by decide +kernel
theorem dX4_being_0 : decode cX4_being 0 = .ok (.aload_n 0, 1) := by decide +kernel
theorem dX4_being_1 : decode cX4_being 1 = .ok (.aload_n 1, 1) := by decide +kernel
theorem dX4_being_2 : decode cX4_being 2 = .ok (.invokevirtual 43, 3) := by decide +kernel
theorem dX4_being_5 : decode cX4_being 5 = .ok (.istore_n 2, 1) := by decide +kernel
theorem dX4_being_6 : decode cX4_being 6 = .ok (.iconst 0, 1) := by decide +kernel
theorem dX4_being_7 : decode cX4_being 7 = .ok (.istore_n 3, 1) := by decide +kernel
theorem dX4_being_8 : decode cX4_being 8 = .ok (.iload_n 3, 1) := by decide +kernel
theorem dX4_being_9 : decode cX4_being 9 = .ok (.aload_n 0, 1) := by decide +kernel
theorem dX4_being_10 : decode cX4_being 10 = .ok (.getfield 19, 3) := by decide +kernel
theorem dX4_being_13 : decode cX4_being 13 = .ok (.if_icmp .ge 26, 3) := by decide +kernel
theorem dX4_being_16 : decode cX4_being 16 = .ok (.aload_n 0, 1) := by decide +kernel
theorem dX4_being_17 : decode cX4_being 17 = .ok (.getfield 11, 3) := by decide +kernel
theorem dX4_being_20 : decode cX4_being 20 = .ok (.iload_n 3, 1) := by decide +kernel
theorem dX4_being_21 : decode cX4_being 21 = .ok (.iaload, 1) := by decide +kernel
theorem dX4_being_22 : decode cX4_being 22 = .ok (.iload_n 2, 1) := by decide +kernel
theorem dX4_being_23 : decode cX4_being 23 = .ok (.if_icmp .ne 10, 3) := by decide +kernel
theorem dX4_being_26 : decode cX4_being 26 = .ok (.aload_n 0, 1) := by decide +kernel
theorem dX4_being_27 : decode cX4_being 27 = .ok (.getfield 15, 3) := by decide +kernel
theorem dX4_being_30 : decode cX4_being 30 = .ok (.iload_n 3, 1) := by decide +kernel
theorem dX4_being_31 : decode cX4_being 31 = .ok (.laload, 1) := by decide +kernel
theorem dX4_being_32 : decode cX4_being 32 = .ok (.lreturn, 1) := by decide +kernel
theorem dX4_being_33 : decode cX4_being 33 = .ok (.iinc 3 1, 3) := by decide +kernel
theorem dX4_being_36 : decode cX4_being 36 = .ok (.goto (-28), 3) := by decide +kernel
theorem dX4_being_39 : decode cX4_being 39 = .ok (.lconst 0, 1) := by decide +kernel
theorem dX4_being_40 : decode cX4_being 40 = .ok (.lreturn, 1) := by decide +kernel
theorem dX4_findLikeliest_0 : decode cX4_findLikeliest 0 = .ok (.iconst 0, 1) := by decide +kernel
theorem dX4_findLikeliest_1 : decode cX4_findLikeliest 1 = .ok (.istore_n 2, 1) := by decide +kernel
theorem dX4_findLikeliest_2 : decode cX4_findLikeliest 2 = .ok (.iconst 1, 1) := by decide +kernel
theorem dX4_findLikeliest_3 : decode cX4_findLikeliest 3 = .ok (.istore_n 3, 1) := by decide +kernel
theorem dX4_findLikeliest_4 : decode cX4_findLikeliest 4 = .ok (.iload_n 3, 1) := by decide +kernel
theorem dX4_findLikeliest_5 : decode cX4_findLikeliest 5 = .ok (.aload_n 0, 1) := by decide +kernel
theorem dX4_findLikeliest_6 : decode cX4_findLikeliest 6 = .ok (.getfield 19, 3) := by decide +kernel
theorem dX4_findLikeliest_9 : decode cX4_findLikeliest 9 = .ok (.if_icmp .ge 58, 3) := by decide +kernel
theorem dX4_findLikeliest_12 : decode cX4_findLikeliest 12 = .ok (.aload_n 0, 1) := by decide +kernel
theorem dX4_findLikeliest_13 : decode cX4_findLikeliest 13 = .ok (.getfield 15, 3) := by decide +kernel
theorem dX4_findLikeliest_16 : decode cX4_findLikeliest 16 = .ok (.iload_n 3, 1) := by decide +kernel
theorem dX4_findLikeliest_17 : decode cX4_findLikeliest 17 = .ok (.laload, 1) := by decide +kernel
theorem dX4_findLikeliest_18 : decode cX4_findLikeliest 18 = .ok (.aload_n 0, 1) := by decide +kernel
theorem dX4_findLikeliest_19 : decode cX4_findLikeliest 19 = .ok (.getfield 15, 3) := by decide +kernel
theorem dX4_findLikeliest_22 : decode cX4_findLikeliest 22 = .ok (.iload_n 2, 1) := by decide +kernel
theorem dX4_findLikeliest_23 : decode cX4_findLikeliest 23 = .ok (.laload, 1) := by decide +kernel
theorem dX4_findLikeliest_24 : decode cX4_findLikeliest 24 = .ok (.lcmp, 1) := by decide +kernel
theorem dX4_findLikeliest_25 : decode cX4_findLikeliest 25 = .ok (.ifCond .gt 34, 3) := by decide +kernel
theorem dX4_findLikeliest_28 : decode cX4_findLikeliest 28 = .ok (.aload_n 0, 1) := by decide +kernel
theorem dX4_findLikeliest_29 : decode cX4_findLikeliest 29 = .ok (.getfield 15, 3) := by decide +kernel
theorem dX4_findLikeliest_32 : decode cX4_findLikeliest 32 = .ok (.iload_n 3, 1) := by decide +kernel
theorem dX4_findLikeliest_33 : decode cX4_findLikeliest 33 = .ok (.laload, 1) := by decide +kernel
theorem dX4_findLikeliest_34 : decode cX4_findLikeliest 34 = .ok (.aload_n 0, 1) := by decide +kernel
theorem dX4_findLikeliest_35 : decode cX4_findLikeliest 35 = .ok (.getfield 15, 3) := by decide +kernel
theorem dX4_findLikeliest_38 : decode cX4_findLikeliest 38 = .ok (.iload_n 2, 1) := by decide +kernel
theorem dX4_findLikeliest_39 : decode cX4_findLikeliest 39 = .ok (.laload, 1) := by decide +kernel
theorem dX4_findLikeliest_40 : decode cX4_findLikeliest 40 = .ok (.lcmp, 1) := by decide +kernel
theorem dX4_findLikeliest_41 : decode cX4_findLikeliest 41 = .ok (.ifCond .ne 20, 3) := by decide +kernel
theorem dX4_findLikeliest_44 : decode cX4_findLikeliest 44 = .ok (.aload_n 0, 1) := by decide +kernel
theorem dX4_findLikeliest_45 : decode cX4_findLikeliest 45 = .ok (.getfield 11, 3) := by decide +kernel
theorem dX4_findLikeliest_48 : decode cX4_findLikeliest 48 = .ok (.iload_n 3, 1) := by decide +kernel
theorem dX4_findLikeliest_49 : decode cX4_findLikeliest 49 = .ok (.iaload, 1) := by decide +kernel
theorem dX4_findLikeliest_50 : decode cX4_findLikeliest 50 = .ok (.aload_n 0, 1) := by decide +kernel
theorem dX4_findLikeliest_51 : decode cX4_findLikeliest 51 = .ok (.getfield 11, 3) := by decide +kernel
theorem dX4_findLikeliest_54 : decode cX4_findLikeliest 54 = .ok (.iload_n 2, 1) := by decide +kernel
theorem dX4_findLikeliest_55 : decode cX4_findLikeliest 55 = .ok (.iaload, 1) := by decide +kernel
theorem dX4_findLikeliest_56 : decode cX4_findLikeliest 56 = .ok (.if_icmp .ge 5, 3) := by decide +kernel
theorem dX4_findLikeliest_59 : decode cX4_findLikeliest 59 = .ok (.iload_n 3, 1) := by decide +kernel
theorem dX4_findLikeliest_60 : decode cX4_findLikeliest 60 = .ok (.istore_n 2, 1) := by decide +kernel
theorem dX4_findLikeliest_61 : decode cX4_findLikeliest 61 = .ok (.iinc 3 1, 3) := by decide +kernel
theorem dX4_findLikeliest_64 : decode cX4_findLikeliest 64 = .ok (.goto (-60), 3) := by decide +kernel
theorem dX4_findLikeliest_67 : decode cX4_findLikeliest 67 = .ok (.iconst 0, 1) := by decide +kernel
theorem dX4_findLikeliest_68 : decode cX4_findLikeliest 68 = .ok (.istore_n 3, 1) := by decide +kernel
theorem dX4_findLikeliest_69 : decode cX4_findLikeliest 69 = .ok (.iload_n 3, 1) := by decide +kernel
theorem dX4_findLikeliest_70 : decode cX4_findLikeliest 70 = .ok (.aload_n 0, 1) := by decide +kernel
theorem dX4_findLikeliest_71 : decode cX4_findLikeliest 71 = .ok (.getfield 39, 3) := by decide +kernel
theorem dX4_findLikeliest_74 : decode cX4_findLikeliest 74 = .ok (.getfield 54, 3) := by decide +kernel
theorem dX4_findLikeliest_77 : decode cX4_findLikeliest 77 = .ok (.if_icmp .ge 23, 3) := by decide +kernel
theorem dX4_findLikeliest_80 : decode cX4_findLikeliest 80 = .ok (.aload_n 1, 1) := by decide +kernel
theorem dX4_findLikeliest_81 : decode cX4_findLikeliest 81 = .ok (.iload_n 3, 1) := by decide +kernel
theorem dX4_findLikeliest_82 : decode cX4_findLikeliest 82 = .ok (.aload_n 0, 1) := by decide +kernel
theorem dX4_findLikeliest_83 : decode cX4_findLikeliest 83 = .ok (.aload_n 0, 1) := by decide +kernel
theorem dX4_findLikeliest_84 : decode cX4_findLikeliest 84 = .ok (.getfield 11, 3) := by decide +kernel
theorem dX4_findLikeliest_87 : decode cX4_findLikeliest 87 = .ok (.iload_n 2, 1) := by decide +kernel
theorem dX4_findLikeliest_88 : decode cX4_findLikeliest 88 = .ok (.iaload, 1) := by decide +kernel
theorem dX4_findLikeliest_89 : decode cX4_findLikeliest 89 = .ok (.iload_n 3, 1) := by decide +kernel
theorem dX4_findLikeliest_90 : decode cX4_findLikeliest 90 = .ok (.invokevirtual 87, 3) := by decide +kernel
theorem dX4_findLikeliest_93 : decode cX4_findLikeliest 93 = .ok (.iastore, 1) := by decide +kernel
theorem dX4_findLikeliest_94 : decode cX4_findLikeliest 94 = .ok (.iinc 3 1, 3) := by decide +kernel
theorem dX4_findLikeliest_97 : decode cX4_findLikeliest 97 = .ok (.goto (-28), 3) := by decide +kernel
theorem dX4_findLikeliest_100 : decode cX4_findLikeliest 100 = .ok (.return_, 1) := by decide +kernel
theorem dX5_init_0 : decode cX5_init 0 = .ok (.aload_n 0, 1) := by decide +kernel
theorem dX5_init_1 : decode cX5_init 1 = .ok (.iload_n 1, 1) := by decide +kernel
theorem dX5_init_2 : decode cX5_init 2 = .ok (.iload_n 2, 1) := by decide +kernel
theorem dX5_init_3 : decode cX5_init 3 = .ok (.invokespecial 3, 3) := by decide +kernel
theorem dX5_init_6 : decode cX5_init 6 = .ok (.return_, 1) := by decide +kernel
theorem dX5_kind_0 : decode cX5_kind 0 = .ok (.iconst 2, 1) := by decide +kernel
theorem dX5_kind_1 : decode cX5_kind 1 = .ok (.ireturn, 1) := by decide +kernel
theorem dX5_pick_0 : decode cX5_pick 0 = .ok (.iconst 0, 1) := by decide +kernel
theorem dX5_pick_1 : decode cX5_pick 1 = .ok (.istore 6, 2) := by decide +kernel
theorem dX5_pick_3 : decode cX5_pick 3 = .ok (.iload 6, 2) := by decide +kernel
theorem dX5_pick_5 : decode cX5_pick 5 = .ok (.iload 4, 2) := by decide +kernel
theorem dX5_pick_7 : decode cX5_pick 7 = .ok (.if_icmp .ge 26, 3) := by decide +kernel
theorem dX5_pick_10 : decode cX5_pick 10 = .ok (.iload 5, 2) := by decide +kernel
theorem dX5_pick_12 : decode cX5_pick 12 = .ok (.aload_n 3, 1) := by decide +kernel
theorem dX5_pick_13 : decode cX5_pick 13 = .ok (.iload 6, 2) := by decide +kernel
theorem dX5_pick_15 : decode cX5_pick 15 = .ok (.iaload, 1) := by decide +kernel
theorem dX5_pick_16 : decode cX5_pick 16 = .ok (.invokestatic 11, 3) := by decide +kernel
theorem dX5_pick_19 : decode cX5_pick 19 = .ok (.ifCond .eq 8, 3) := by decide +kernel
theorem dX5_pick_22 : decode cX5_pick 22 = .ok (.aload_n 3, 1) := by decide +kernel
theorem dX5_pick_23 : decode cX5_pick 23 = .ok (.iload 6, 2) := by decide +kernel
theorem dX5_pick_25 : decode cX5_pick 25 = .ok (.iaload, 1) := by decide +kernel
theorem dX5_pick_26 : decode cX5_pick 26 = .ok (.ireturn, 1) := by decide +kernel
theorem dX5_pick_27 : decode cX5_pick 27 = .ok (.iinc 6 1, 3) := by decide +kernel
theorem dX5_pick_30 : decode cX5_pick 30 = .ok (.goto (-27), 3) := by decide +kernel
theorem dX5_pick_33 : decode cX5_pick 33 = .ok (.bipush (-5), 2) := by decide +kernel
theorem dX5_pick_35 : decode cX5_pick 35 = .ok (.ireturn, 1) := by decide +kernel
theorem dX5_taking_0 : decode cX5_taking 0 = .ok (.aload_n 2, 1) := by decide +kernel
theorem dX5_taking_1 : decode cX5_taking 1 = .ok (.bipush 21, 2) := by decide +kernel
theorem dX5_taking_3 : decode cX5_taking 3 = .ok (.invokestatic 15, 3) := by decide +kernel
theorem dX5_taking_6 : decode cX5_taking 6 = .ok (.aload_n 0, 1) := by decide +kernel
theorem dX5_taking_7 : decode cX5_taking 7 = .ok (.iload_n 1, 1) := by decide +kernel
theorem dX5_taking_8 : decode cX5_taking 8 = .ok (.aload_n 2, 1) := by decide +kernel
theorem dX5_taking_9 : decode cX5_taking 9 = .ok (.invokespecial 19, 3) := by decide +kernel
theorem dX5_taking_12 : decode cX5_taking 12 = .ok (.ineg, 1) := by decide +kernel
theorem dX5_taking_13 : decode cX5_taking 13 = .ok (.ireturn, 1) := by decide +kernel
theorem dX6_init_0 : decode cX6_init 0 = .ok (.aload_n 0, 1) := by decide +kernel
theorem dX6_init_1 : decode cX6_init 1 = .ok (.invokespecial 3, 3) := by decide +kernel
theorem dX6_init_4 : decode cX6_init 4 = .ok (.aload_n 0, 1) := by decide +kernel
theorem dX6_init_5 : decode cX6_init 5 = .ok (.iconst 0, 1) := by decide +kernel
theorem dX6_init_6 : decode cX6_init 6 = .ok (.putfield 9, 3) := by decide +kernel
theorem dX6_init_9 : decode cX6_init 9 = .ok (.aload_n 0, 1) := by decide +kernel
theorem dX6_init_10 : decode cX6_init 10 = .ok (.bipush 6, 2) := by decide +kernel
theorem dX6_init_12 : decode cX6_init 12 = .ok (.newarray .int, 2) := by decide +kernel
theorem dX6_init_14 : decode cX6_init 14 = .ok (.putfield 15, 3) := by decide +kernel
theorem dX6_init_17 : decode cX6_init 17 = .ok (.aload_n 0, 1) := by decide +kernel
theorem dX6_init_18 : decode cX6_init 18 = .ok (.bipush 6, 2) := by decide +kernel
theorem dX6_init_20 : decode cX6_init 20 = .ok (.bipush 6, 2) := by decide +kernel
theorem dX6_init_22 : decode cX6_init 22 = .ok (.multianewarray 19 2, 4) := by decide +kernel
theorem dX6_init_26 : decode cX6_init 26 = .ok (.putfield 21, 3) := by decide +kernel
theorem dX6_init_29 : decode cX6_init 29 = .ok (.aload_n 0, 1) := by decide +kernel
theorem dX6_init_30 : decode cX6_init 30 = .ok (.iconst 0, 1) := by decide +kernel
theorem dX6_init_31 : decode cX6_init 31 = .ok (.putfield 24, 3) := by decide +kernel
theorem dX6_init_34 : decode cX6_init 34 = .ok (.aload_n 0, 1) := by decide +kernel
theorem dX6_init_35 : decode cX6_init 35 = .ok (.bipush 6, 2) := by decide +kernel
theorem dX6_init_37 : decode cX6_init 37 = .ok (.anewarray 27, 3) := by decide +kernel
theorem dX6_init_40 : decode cX6_init 40 = .ok (.putfield 29, 3) := by decide +kernel
theorem dX6_init_43 : decode cX6_init 43 = .ok (.aload_n 0, 1) := by decide +kernel
theorem dX6_init_44 : decode cX6_init 44 = .ok (.bipush 120, 2) := by decide +kernel
theorem dX6_init_46 : decode cX6_init 46 = .ok (.newarray .byte, 2) := by decide +kernel
theorem dX6_init_48 : decode cX6_init 48 = .ok (.putfield 33, 3) := by decide +kernel
theorem dX6_init_51 : decode cX6_init 51 = .ok (.aload_n 0, 1) := by decide +kernel
theorem dX6_init_52 : decode cX6_init 52 = .ok (.iconst 0, 1) := by decide +kernel
theorem dX6_init_53 : decode cX6_init 53 = .ok (.putfield 37, 3) := by decide +kernel
theorem dX6_init_56 : decode cX6_init 56 = .ok (.aload_n 0, 1) := by decide +kernel
theorem dX6_init_57 : decode cX6_init 57 = .ok (.iconst 5, 1) := by decide +kernel
theorem dX6_init_58 : decode cX6_init 58 = .ok (.anewarray 40, 3) := by decide +kernel
theorem dX6_init_61 : decode cX6_init 61 = .ok (.putfield 42, 3) := by decide +kernel
theorem dX6_init_64 : decode cX6_init 64 = .ok (.aload_n 0, 1) := by decide +kernel
theorem dX6_init_65 : decode cX6_init 65 = .ok (.iconst 0, 1) := by decide +kernel
theorem dX6_init_66 : decode cX6_init 66 = .ok (.putfield 46, 3) := by decide +kernel
theorem dX6_init_69 : decode cX6_init 69 = .ok (.aload_n 0, 1) := by decide +kernel
theorem dX6_init_70 : decode cX6_init 70 = .ok (.bipush 6, 2) := by decide +kernel
theorem dX6_init_72 : decode cX6_init 72 = .ok (.newarray .int, 2) := by decide +kernel
theorem dX6_init_74 : decode cX6_init 74 = .ok (.putfield 49, 3) := by decide +kernel
theorem dX6_init_77 : decode cX6_init 77 = .ok (.aload_n 0, 1) := by decide +kernel
theorem dX6_init_78 : decode cX6_init 78 = .ok (.iconst 0, 1) := by decide +kernel
theorem dX6_init_79 : decode cX6_init 79 = .ok (.putfield 52, 3) := by decide +kernel
theorem dX6_init_82 : decode cX6_init 82 = .ok (.aload_n 0, 1) := by decide +kernel
theorem dX6_init_83 : decode cX6_init 83 = .ok (.bipush 15, 2) := by decide +kernel
theorem dX6_init_85 : decode cX6_init 85 = .ok (.newarray .int, 2) := by decide +kernel
theorem dX6_init_87 : decode cX6_init 87 = .ok (.putfield 55, 3) := by decide +kernel
theorem dX6_init_90 : decode cX6_init 90 = .ok (.aload_n 0, 1) := by decide +kernel
theorem dX6_init_91 : decode cX6_init 91 = .ok (.bipush 15, 2) := by decide +kernel
theorem dX6_init_93 : decode cX6_init 93 = .ok (.newarray .int, 2) := by decide +kernel
theorem dX6_init_95 : decode cX6_init 95 = .ok (.putfield 58, 3) := by decide +kernel
theorem dX6_init_98 : decode cX6_init 98 = .ok (.aload_n 0, 1) := by decide +kernel
theorem dX6_init_99 : decode cX6_init 99 = .ok (.iconst 0, 1) := by decide +kernel
theorem dX6_init_100 : decode cX6_init 100 = .ok (.putfield 61, 3) := by decide +kernel
theorem dX6_init_103 : decode cX6_init 103 = .ok (.aload_n 0, 1) := by decide +kernel
theorem dX6_init_104 : decode cX6_init 104 = .ok (.bipush 6, 2) := by decide +kernel
theorem dX6_init_106 : decode cX6_init 106 = .ok (.bipush 6, 2) := by decide +kernel
theorem dX6_init_108 : decode cX6_init 108 = .ok (.multianewarray 19 2, 4) := by decide +kernel
theorem dX6_init_112 : decode cX6_init 112 = .ok (.putfield 64, 3) := by decide +kernel
theorem dX6_init_115 : decode cX6_init 115 = .ok (.aload_n 0, 1) := by decide +kernel
theorem dX6_init_116 : decode cX6_init 116 = .ok (.bipush 6, 2) := by decide +kernel
theorem dX6_init_118 : decode cX6_init 118 = .ok (.newarray .int, 2) := by decide +kernel
theorem dX6_init_120 : decode cX6_init 120 = .ok (.putfield 67, 3) := by decide +kernel
theorem dX6_init_123 : decode cX6_init 123 = .ok (.iconst 0, 1) := by decide +kernel
theorem dX6_init_124 : decode cX6_init 124 = .ok (.istore_n 1, 1) := by decide +kernel
theorem dX6_init_125 : decode cX6_init 125 = .ok (.iload_n 1, 1) := by decide +kernel
theorem dX6_init_126 : decode cX6_init 126 = .ok (.bipush 6, 2) := by decide +kernel
theorem dX6_init_128 : decode cX6_init 128 = .ok (.if_icmp .ge 48, 3) := by decide +kernel
theorem dX6_init_131 : decode cX6_init 131 = .ok (.aload_n 0, 1) := by decide +kernel
theorem dX6_init_132 : decode cX6_init 132 = .ok (.getfield 29, 3) := by decide +kernel
theorem dX6_init_135 : decode cX6_init 135 = .ok (.iload_n 1, 1) := by decide +kernel
theorem dX6_init_136 : decode cX6_init 136 = .ok (.new 27, 3) := by decide +kernel
theorem dX6_init_139 : decode cX6_init 139 = .ok (.dup, 1) := by decide +kernel
theorem dX6_init_140 : decode cX6_init 140 = .ok (.iload_n 1, 1) := by decide +kernel
theorem dX6_init_141 : decode cX6_init 141 = .ok (.iconst 0, 1) := by decide +kernel
theorem dX6_init_142 : decode cX6_init 142 = .ok (.invokespecial 70, 3) := by decide +kernel
theorem dX6_init_145 : decode cX6_init 145 = .ok (.aastore, 1) := by decide +kernel
theorem dX6_init_146 : decode cX6_init 146 = .ok (.iconst 0, 1) := by decide +kernel
theorem dX6_init_147 : decode cX6_init 147 = .ok (.istore_n 2, 1) := by decide +kernel
theorem dX6_init_148 : decode cX6_init 148 = .ok (.iload_n 2, 1) := by decide +kernel
theorem dX6_init_149 : decode cX6_init 149 = .ok (.bipush 6, 2) := by decide +kernel
theorem dX6_init_151 : decode cX6_init 151 = .ok (.if_icmp .ge 19, 3) := by decide +kernel
theorem dX6_init_154 : decode cX6_init 154 = .ok (.aload_n 0, 1) := by decide +kernel
theorem dX6_init_155 : decode cX6_init 155 = .ok (.getfield 21, 3) := by decide +kernel
theorem dX6_init_158 : decode cX6_init 158 = .ok (.iload_n 1, 1) := by decide +kernel
theorem dX6_init_159 : decode cX6_init 159 = .ok (.aaload, 1) := by decide +kernel
theorem dX6_init_160 : decode cX6_init 160 = .ok (.iload_n 2, 1) := by decide +kernel
theorem dX6_init_161 : decode cX6_init 161 = .ok (.bipush 50, 2) := by decide +kernel
theorem dX6_init_163 : decode cX6_init 163 = .ok (.iastore, 1) := by decide +kernel
theorem dX6_init_164 : decode cX6_init 164 = .ok (.iinc 2 1, 3) := by decide +kernel
theorem dX6_init_167 : decode cX6_init 167 = .ok (.goto (-19), 3) := by decide +kernel
theorem dX6_init_170 : decode cX6_init 170 = .ok (.iinc 1 1, 3) := by decide +kernel
theorem dX6_init_173 : decode cX6_init 173 = .ok (.goto (-48), 3) := by decide +kernel
theorem dX6_init_176 : decode cX6_init 176 = .ok (.return_, 1) := by decide +kernel
theorem dX6_copy_0 : decode cX6_copy 0 = .ok (.aload_n 0, 1) := by decide +kernel
theorem dX6_copy_1 : decode cX6_copy 1 = .ok (.aload_n 1, 1) := by decide +kernel
theorem dX6_copy_2 : decode cX6_copy 2 = .ok (.getfield 9, 3) := by decide +kernel
theorem dX6_copy_5 : decode cX6_copy 5 = .ok (.putfield 9, 3) := by decide +kernel
theorem dX6_copy_8 : decode cX6_copy 8 = .ok (.aload_n 0, 1) := by decide +kernel
theorem dX6_copy_9 : decode cX6_copy 9 = .ok (.aload_n 1, 1) := by decide +kernel
theorem dX6_copy_10 : decode cX6_copy 10 = .ok (.getfield 24, 3) := by decide +kernel
theorem dX6_copy_13 : decode cX6_copy 13 = .ok (.putfield 24, 3) := by decide +kernel
theorem dX6_copy_16 : decode cX6_copy 16 = .ok (.aload_n 0, 1) := by decide +kernel
theorem dX6_copy_17 : decode cX6_copy 17 = .ok (.aload_n 1, 1) := by decide +kernel
theorem dX6_copy_18 : decode cX6_copy 18 = .ok (.getfield 37, 3) := by decide +kernel
theorem dX6_copy_21 : decode cX6_copy 21 = .ok (.putfield 37, 3) := by decide +kernel
theorem dX6_copy_24 : decode cX6_copy 24 = .ok (.aload_n 0, 1) := by decide +kernel
theorem dX6_copy_25 : decode cX6_copy 25 = .ok (.aload_n 1, 1) := by decide +kernel
theorem dX6_copy_26 : decode cX6_copy 26 = .ok (.getfield 46, 3) := by decide +kernel
theorem dX6_copy_29 : decode cX6_copy 29 = .ok (.putfield 46, 3) := by decide +kernel
theorem dX6_copy_32 : decode cX6_copy 32 = .ok (.aload_n 0, 1) := by decide +kernel
theorem dX6_copy_33 : decode cX6_copy 33 = .ok (.aload_n 1, 1) := by decide +kernel
theorem dX6_copy_34 : decode cX6_copy 34 = .ok (.getfield 52, 3) := by decide +kernel
theorem dX6_copy_37 : decode cX6_copy 37 = .ok (.putfield 52, 3) := by decide +kernel
theorem dX6_copy_40 : decode cX6_copy 40 = .ok (.aload_n 0, 1) := by decide +kernel
theorem dX6_copy_41 : decode cX6_copy 41 = .ok (.aload_n 1, 1) := by decide +kernel
theorem dX6_copy_42 : decode cX6_copy 42 = .ok (.getfield 61, 3) := by decide +kernel
theorem dX6_copy_45 : decode cX6_copy 45 = .ok (.putfield 61, 3) := by decide +kernel
theorem dX6_copy_48 : decode cX6_copy 48 = .ok (.aload_n 1, 1) := by decide +kernel
theorem dX6_copy_49 : decode cX6_copy 49 = .ok (.getfield 15, 3) := by decide +kernel
theorem dX6_copy_52 : decode cX6_copy 52 = .ok (.iconst 0, 1) := by decide +kernel
theorem dX6_copy_53 : decode cX6_copy 53 = .ok (.aload_n 0, 1) := by decide +kernel
theorem dX6_copy_54 : decode cX6_copy 54 = .ok (.getfield 15, 3) := by decide +kernel
theorem dX6_copy_57 : decode cX6_copy 57 = .ok (.iconst 0, 1) := by decide +kernel
theorem dX6_copy_58 : decode cX6_copy 58 = .ok (.bipush 6, 2) := by decide +kernel
theorem dX6_copy_60 : decode cX6_copy 60 = .ok (.invokestatic 73, 3) := by decide +kernel
theorem dX6_copy_63 : decode cX6_copy 63 = .ok (.aload_n 1, 1) := by decide +kernel
theorem dX6_copy_64 : decode cX6_copy 64 = .ok (.getfield 33, 3) := by decide +kernel
theorem dX6_copy_67 : decode cX6_copy 67 = .ok (.iconst 0, 1) := by decide +kernel
theorem dX6_copy_68 : decode cX6_copy 68 = .ok (.aload_n 0, 1) := by decide +kernel
theorem dX6_copy_69 : decode cX6_copy 69 = .ok (.getfield 33, 3) := by decide +kernel
theorem dX6_copy_72 : decode cX6_copy 72 = .ok (.iconst 0, 1) := by decide +kernel
theorem dX6_copy_73 : decode cX6_copy 73 = .ok (.bipush 120, 2) := by decide +kernel
theorem dX6_copy_75 : decode cX6_copy 75 = .ok (.invokestatic 73, 3) := by decide +kernel
theorem dX6_copy_78 : decode cX6_copy 78 = .ok (.aload_n 1, 1) := by decide +kernel
theorem dX6_copy_79 : decode cX6_copy 79 = .ok (.getfield 49, 3) := by decide +kernel
theorem dX6_copy_82 : decode cX6_copy 82 = .ok (.iconst 0, 1) := by decide +kernel
theorem dX6_copy_83 : decode cX6_copy 83 = .ok (.aload_n 0, 1) := by decide +kernel
theorem dX6_copy_84 : decode cX6_copy 84 = .ok (.getfield 49, 3) := by decide +kernel
theorem dX6_copy_87 : decode cX6_copy 87 = .ok (.iconst 0, 1) := by decide +kernel
theorem dX6_copy_88 : decode cX6_copy 88 = .ok (.bipush 6, 2) := by decide +kernel
theorem dX6_copy_90 : decode cX6_copy 90 = .ok (.invokestatic 73, 3) := by decide +kernel
theorem dX6_copy_93 : decode cX6_copy 93 = .ok (.aload_n 1, 1) := by decide +kernel
theorem dX6_copy_94 : decode cX6_copy 94 = .ok (.getfield 55, 3) := by decide +kernel
theorem dX6_copy_97 : decode cX6_copy 97 = .ok (.iconst 0, 1) := by decide +kernel
theorem dX6_copy_98 : decode cX6_copy 98 = .ok (.aload_n 0, 1) := by decide +kernel
theorem dX6_copy_99 : decode cX6_copy 99 = .ok (.getfield 55, 3) := by decide +kernel
theorem dX6_copy_102 : decode cX6_copy 102 = .ok (.iconst 0, 1) := by decide +kernel
theorem dX6_copy_103 : decode cX6_copy 103 = .ok (.bipush 15, 2) := by decide +kernel
theorem dX6_copy_105 : decode cX6_copy 105 = .ok (.invokestatic 73, 3) := by decide +kernel
theorem dX6_copy_108 : decode cX6_copy 108 = .ok (.aload_n 1, 1) := by decide +kernel
theorem dX6_copy_109 : decode cX6_copy 109 = .ok (.getfield 58, 3) := by decide +kernel
theorem dX6_copy_112 : decode cX6_copy 112 = .ok (.iconst 0, 1) := by decide +kernel
theorem dX6_copy_113 : decode cX6_copy 113 = .ok (.aload_n 0, 1) := by decide +kernel
theorem dX6_copy_114 : decode cX6_copy 114 = .ok (.getfield 58, 3) := by decide +kernel
theorem dX6_copy_117 : decode cX6_copy 117 = .ok (.iconst 0, 1) := by decide +kernel
theorem dX6_copy_118 : decode cX6_copy 118 = .ok (.bipush 15, 2) := by decide +kernel
theorem dX6_copy_120 : decode cX6_copy 120 = .ok (.invokestatic 73, 3) := by decide +kernel
theorem dX6_copy_123 : decode cX6_copy 123 = .ok (.iconst 0, 1) := by decide +kernel
theorem dX6_copy_124 : decode cX6_copy 124 = .ok (.istore_n 2, 1) := by decide +kernel
theorem dX6_copy_125 : decode cX6_copy 125 = .ok (.iload_n 2, 1) := by decide +kernel
theorem dX6_copy_126 : decode cX6_copy 126 = .ok (.iconst 5, 1) := by decide +kernel
theorem dX6_copy_127 : decode cX6_copy 127 = .ok (.if_icmp .ge 21, 3) := by decide +kernel
theorem dX6_copy_130 : decode cX6_copy 130 = .ok (.aload_n 0, 1) := by decide +kernel
theorem dX6_copy_131 : decode cX6_copy 131 = .ok (.getfield 42, 3) := by decide +kernel
theorem dX6_copy_134 : decode cX6_copy 134 = .ok (.iload_n 2, 1) := by decide +kernel
theorem dX6_copy_135 : decode cX6_copy 135 = .ok (.aload_n 1, 1) := by decide +kernel
theorem dX6_copy_136 : decode cX6_copy 136 = .ok (.getfield 42, 3) := by decide +kernel
theorem dX6_copy_139 : decode cX6_copy 139 = .ok (.iload_n 2, 1) := by decide +kernel
theorem dX6_copy_140 : decode cX6_copy 140 = .ok (.aaload, 1) := by decide +kernel
theorem dX6_copy_141 : decode cX6_copy 141 = .ok (.aastore, 1) := by decide +kernel
theorem dX6_copy_142 : decode cX6_copy 142 = .ok (.iinc 2 1, 3) := by decide +kernel
theorem dX6_copy_145 : decode cX6_copy 145 = .ok (.goto (-20), 3) := by decide +kernel
theorem dX6_copy_148 : decode cX6_copy 148 = .ok (.iconst 0, 1) := by decide +kernel
theorem dX6_copy_149 : decode cX6_copy 149 = .ok (.istore_n 2, 1) := by decide +kernel
theorem dX6_copy_150 : decode cX6_copy 150 = .ok (.iload_n 2, 1) := by decide +kernel
theorem dX6_copy_151 : decode cX6_copy 151 = .ok (.bipush 6, 2) := by decide +kernel
theorem dX6_copy_153 : decode cX6_copy 153 = .ok (.if_icmp .ge 59, 3) := by decide +kernel
theorem dX6_copy_156 : decode cX6_copy 156 = .ok (.aload_n 0, 1) := by decide +kernel
theorem dX6_copy_157 : decode cX6_copy 157 = .ok (.getfield 29, 3) := by decide +kernel
theorem dX6_copy_160 : decode cX6_copy 160 = .ok (.iload_n 2, 1) := by decide +kernel
theorem dX6_copy_161 : decode cX6_copy 161 = .ok (.aload_n 1, 1) := by decide +kernel
theorem dX6_copy_162 : decode cX6_copy 162 = .ok (.getfield 29, 3) := by decide +kernel
theorem dX6_copy_165 : decode cX6_copy 165 = .ok (.iload_n 2, 1) := by decide +kernel
theorem dX6_copy_166 : decode cX6_copy 166 = .ok (.aaload, 1) := by decide +kernel
theorem dX6_copy_167 : decode cX6_copy 167 = .ok (.aastore, 1) := by decide +kernel
theorem dX6_copy_168 : decode cX6_copy 168 = .ok (.aload_n 1, 1) := by decide +kernel
theorem dX6_copy_169 : decode cX6_copy 169 = .ok (.getfield 21, 3) := by decide +kernel
theorem dX6_copy_172 : decode cX6_copy 172 = .ok (.iload_n 2, 1) := by decide +kernel
theorem dX6_copy_173 : decode cX6_copy 173 = .ok (.aaload, 1) := by decide +kernel
theorem dX6_copy_174 : decode cX6_copy 174 = .ok (.iconst 0, 1) := by decide +kernel
theorem dX6_copy_175 : decode cX6_copy 175 = .ok (.aload_n 0, 1) := by decide +kernel
theorem dX6_copy_176 : decode cX6_copy 176 = .ok (.getfield 21, 3) := by decide +kernel
theorem dX6_copy_179 : decode cX6_copy 179 = .ok (.iload_n 2, 1) := by decide +kernel
theorem dX6_copy_180 : decode cX6_copy 180 = .ok (.aaload, 1) := by decide +kernel
theorem dX6_copy_181 : decode cX6_copy 181 = .ok (.iconst 0, 1) := by decide +kernel
theorem dX6_copy_182 : decode cX6_copy 182 = .ok (.bipush 6, 2) := by decide +kernel
theorem dX6_copy_184 : decode cX6_copy 184 = .ok (.invokestatic 73, 3) := by decide +kernel
theorem dX6_copy_187 : decode cX6_copy 187 = .ok (.aload_n 1, 1) := by decide +kernel
theorem dX6_copy_188 : decode cX6_copy 188 = .ok (.getfield 64, 3) := by decide +kernel
theorem dX6_copy_191 : decode cX6_copy 191 = .ok (.iload_n 2, 1) := by decide +kernel
theorem dX6_copy_192 : decode cX6_copy 192 = .ok (.aaload, 1) := by decide +kernel
theorem dX6_copy_193 : decode cX6_copy 193 = .ok (.iconst 0, 1) := by decide +kernel
theorem dX6_copy_194 : decode cX6_copy 194 = .ok (.aload_n 0, 1) := by decide +kernel
theorem dX6_copy_195 : decode cX6_copy 195 = .ok (.getfield 64, 3) := by decide +kernel
theorem dX6_copy_198 : decode cX6_copy 198 = .ok (.iload_n 2, 1) := by decide +kernel
theorem dX6_copy_199 : decode cX6_copy 199 = .ok (.aaload, 1) := by decide +kernel
theorem dX6_copy_200 : decode cX6_copy 200 = .ok (.iconst 0, 1) := by decide +kernel
theorem dX6_copy_201 : decode cX6_copy 201 = .ok (.bipush 6, 2) := by decide +kernel
theorem dX6_copy_203 : decode cX6_copy 203 = .ok (.invokestatic 73, 3) := by decide +kernel
theorem dX6_copy_206 : decode cX6_copy 206 = .ok (.iinc 2 1, 3) := by decide +kernel
theorem dX6_copy_209 : decode cX6_copy 209 = .ok (.goto (-59), 3) := by decide +kernel
theorem dX6_copy_212 : decode cX6_copy 212 = .ok (.return_, 1) := by decide +kernel
theorem dX6_isStronger_0 : decode cX6_isStronger 0 = .ok (.aload_n 0, 1) := by decide +kernel
theorem dX6_isStronger_1 : decode cX6_isStronger 1 = .ok (.getfield 21, 3) := by decide +kernel
theorem dX6_isStronger_4 : decode cX6_isStronger 4 = .ok (.iload_n 1, 1) := by decide +kernel
theorem dX6_isStronger_5 : decode cX6_isStronger 5 = .ok (.aaload, 1) := by decide +kernel
theorem dX6_isStronger_6 : decode cX6_isStronger 6 = .ok (.iload_n 2, 1) := by decide +kernel
theorem dX6_isStronger_7 : decode cX6_isStronger 7 = .ok (.iaload, 1) := by decide +kernel
theorem dX6_isStronger_8 : decode cX6_isStronger 8 = .ok (.bipush 50, 2) := by decide +kernel
theorem dX6_isStronger_10 : decode cX6_isStronger 10 = .ok (.if_icmp .le 7, 3) := by decide +kernel
theorem dX6_isStronger_13 : decode cX6_isStronger 13 = .ok (.iconst 1, 1) := by decide +kernel
theorem dX6_isStronger_14 : decode cX6_isStronger 14 = .ok (.goto 4, 3) := by decide +kernel
theorem dX6_isStronger_17 : decode cX6_isStronger 17 = .ok (.iconst 0, 1) := by decide +kernel
theorem dX6_isStronger_18 : decode cX6_isStronger 18 = .ok (.ireturn, 1) := by decide +kernel
theorem dX6_rungOf_0 : decode cX6_rungOf 0 = .ok (.iconst 0, 1) := by decide +kernel
theorem dX6_rungOf_1 : decode cX6_rungOf 1 = .ok (.istore_n 2, 1) := by decide +kernel
theorem dX6_rungOf_2 : decode cX6_rungOf 2 = .ok (.iconst 0, 1) := by decide +kernel
theorem dX6_rungOf_3 : decode cX6_rungOf 3 = .ok (.istore_n 3, 1) := by decide +kernel
theorem dX6_rungOf_4 : decode cX6_rungOf 4 = .ok (.iload_n 3, 1) := by decide +kernel
theorem dX6_rungOf_5 : decode cX6_rungOf 5 = .ok (.aload_n 0, 1) := by decide +kernel
theorem dX6_rungOf_6 : decode cX6_rungOf 6 = .ok (.getfield 9, 3) := by decide +kernel
theorem dX6_rungOf_9 : decode cX6_rungOf 9 = .ok (.if_icmp .ge 21, 3) := by decide +kernel
theorem dX6_rungOf_12 : decode cX6_rungOf 12 = .ok (.aload_n 0, 1) := by decide +kernel
theorem dX6_rungOf_13 : decode cX6_rungOf 13 = .ok (.getfield 15, 3) := by decide +kernel
theorem dX6_rungOf_16 : decode cX6_rungOf 16 = .ok (.iload_n 3, 1) := by decide +kernel
theorem dX6_rungOf_17 : decode cX6_rungOf 17 = .ok (.iaload, 1) := by decide +kernel
theorem dX6_rungOf_18 : decode cX6_rungOf 18 = .ok (.iload_n 1, 1) := by decide +kernel
theorem dX6_rungOf_19 : decode cX6_rungOf 19 = .ok (.if_icmp .ne 5, 3) := by decide +kernel
theorem dX6_rungOf_22 : decode cX6_rungOf 22 = .ok (.iload_n 3, 1) := by decide +kernel
theorem dX6_rungOf_23 : decode cX6_rungOf 23 = .ok (.istore_n 2, 1) := by decide +kernel
theorem dX6_rungOf_24 : decode cX6_rungOf 24 = .ok (.iinc 3 1, 3) := by decide +kernel
theorem dX6_rungOf_27 : decode cX6_rungOf 27 = .ok (.goto (-23), 3) := by decide +kernel
theorem dX6_rungOf_30 : decode cX6_rungOf 30 = .ok (.iload_n 2, 1) := by decide +kernel
theorem dX6_rungOf_31 : decode cX6_rungOf 31 = .ok (.ireturn, 1) := by decide +kernel
theorem dX6_findTruth_0 : decode cX6_findTruth 0 = .ok (.iconst 0, 1) := by decide +kernel
theorem dX6_findTruth_1 : decode cX6_findTruth 1 = .ok (.istore_n 2, 1) := by decide +kernel
theorem dX6_findTruth_2 : decode cX6_findTruth 2 = .ok (.iload_n 2, 1) := by decide +kernel
theorem dX6_findTruth_3 : decode cX6_findTruth 3 = .ok (.aload_n 0, 1) := by decide +kernel
theorem dX6_findTruth_4 : decode cX6_findTruth 4 = .ok (.getfield 9, 3) := by decide +kernel
theorem dX6_findTruth_7 : decode cX6_findTruth 7 = .ok (.if_icmp .ge 66, 3) := by decide +kernel
theorem dX6_findTruth_10 : decode cX6_findTruth 10 = .ok (.iconst 0, 1) := by decide +kernel
theorem dX6_findTruth_11 : decode cX6_findTruth 11 = .ok (.istore_n 3, 1) := by decide +kernel
theorem dX6_findTruth_12 : decode cX6_findTruth 12 = .ok (.iconst 0, 1) := by decide +kernel
theorem dX6_findTruth_13 : decode cX6_findTruth 13 = .ok (.istore 4, 2) := by decide +kernel
theorem dX6_findTruth_15 : decode cX6_findTruth 15 = .ok (.iload 4, 2) := by decide +kernel
theorem dX6_findTruth_17 : decode cX6_findTruth 17 = .ok (.aload_n 0, 1) := by decide +kernel
theorem dX6_findTruth_18 : decode cX6_findTruth 18 = .ok (.getfield 9, 3) := by decide +kernel
theorem dX6_findTruth_21 : decode cX6_findTruth 21 = .ok (.if_icmp .ge 42, 3) := by decide +kernel
theorem dX6_findTruth_24 : decode cX6_findTruth 24 = .ok (.aload_n 0, 1) := by decide +kernel
theorem dX6_findTruth_25 : decode cX6_findTruth 25 = .ok (.iload 4, 2) := by decide +kernel
theorem dX6_findTruth_27 : decode cX6_findTruth 27 = .ok (.invokevirtual 79, 3) := by decide +kernel
theorem dX6_findTruth_30 : decode cX6_findTruth 30 = .ok (.aload_n 0, 1) := by decide +kernel
theorem dX6_findTruth_31 : decode cX6_findTruth 31 = .ok (.iload_n 2, 1) := by decide +kernel
theorem dX6_findTruth_32 : decode cX6_findTruth 32 = .ok (.invokevirtual 79, 3) := by decide +kernel
theorem dX6_findTruth_35 : decode cX6_findTruth 35 = .ok (.isub, 1) := by decide +kernel
theorem dX6_findTruth_36 : decode cX6_findTruth 36 = .ok (.istore 5, 2) := by decide +kernel
theorem dX6_findTruth_38 : decode cX6_findTruth 38 = .ok (.iload 5, 2) := by decide +kernel
theorem dX6_findTruth_40 : decode cX6_findTruth 40 = .ok (.ifCond .gt 14, 3) := by decide +kernel
theorem dX6_findTruth_43 : decode cX6_findTruth 43 = .ok (.iload 5, 2) := by decide +kernel
theorem dX6_findTruth_45 : decode cX6_findTruth 45 = .ok (.ifCond .ne 12, 3) := by decide +kernel
theorem dX6_findTruth_48 : decode cX6_findTruth 48 = .ok (.iload 4, 2) := by decide +kernel
theorem dX6_findTruth_50 : decode cX6_findTruth 50 = .ok (.iload_n 2, 1) := by decide +kernel
theorem dX6_findTruth_51 : decode cX6_findTruth 51 = .ok (.if_icmp .ge 6, 3) := by decide +kernel
theorem dX6_findTruth_54 : decode cX6_findTruth 54 = .ok (.iinc 3 1, 3) := by decide +kernel
theorem dX6_findTruth_57 : decode cX6_findTruth 57 = .ok (.iinc 4 1, 3) := by decide +kernel
theorem dX6_findTruth_60 : decode cX6_findTruth 60 = .ok (.goto (-45), 3) := by decide +kernel
theorem dX6_findTruth_63 : decode cX6_findTruth 63 = .ok (.aload_n 1, 1) := by decide +kernel
theorem dX6_findTruth_64 : decode cX6_findTruth 64 = .ok (.iload_n 3, 1) := by decide +kernel
theorem dX6_findTruth_65 : decode cX6_findTruth 65 = .ok (.iload_n 2, 1) := by decide +kernel
theorem dX6_findTruth_66 : decode cX6_findTruth 66 = .ok (.iastore, 1) := by decide +kernel
theorem dX6_findTruth_67 : decode cX6_findTruth 67 = .ok (.iinc 2 1, 3) := by decide +kernel
theorem dX6_findTruth_70 : decode cX6_findTruth 70 = .ok (.goto (-68), 3) := by decide +kernel
theorem dX6_findTruth_73 : decode cX6_findTruth 73 = .ok (.return_, 1) := by decide +kernel
theorem dX6_weaker_0 : decode cX6_weaker 0 = .ok (.iconst 0, 1) := by decide +kernel
theorem dX6_weaker_1 : decode cX6_weaker 1 = .ok (.istore_n 2, 1) := by decide +kernel
theorem dX6_weaker_2 : decode cX6_weaker 2 = .ok (.iconst 0, 1) := by decide +kernel
theorem dX6_weaker_3 : decode cX6_weaker 3 = .ok (.istore_n 3, 1) := by decide +kernel
theorem dX6_weaker_4 : decode cX6_weaker 4 = .ok (.iload_n 3, 1) := by decide +kernel
theorem dX6_weaker_5 : decode cX6_weaker 5 = .ok (.aload_n 0, 1) := by decide +kernel
theorem dX6_weaker_6 : decode cX6_weaker 6 = .ok (.getfield 9, 3) := by decide +kernel
theorem dX6_weaker_9 : decode cX6_weaker 9 = .ok (.if_icmp .ge 26, 3) := by decide +kernel
theorem dX6_weaker_12 : decode cX6_weaker 12 = .ok (.iload_n 1, 1) := by decide +kernel
theorem dX6_weaker_13 : decode cX6_weaker 13 = .ok (.iload_n 3, 1) := by decide +kernel
theorem dX6_weaker_14 : decode cX6_weaker 14 = .ok (.if_icmp .eq 15, 3) := by decide +kernel
theorem dX6_weaker_17 : decode cX6_weaker 17 = .ok (.aload_n 0, 1) := by decide +kernel
theorem dX6_weaker_18 : decode cX6_weaker 18 = .ok (.iload_n 1, 1) := by decide +kernel
theorem dX6_weaker_19 : decode cX6_weaker 19 = .ok (.iload_n 3, 1) := by decide +kernel
theorem dX6_weaker_20 : decode cX6_weaker 20 = .ok (.invokevirtual 83, 3) := by decide +kernel
theorem dX6_weaker_23 : decode cX6_weaker 23 = .ok (.ifCond .eq 6, 3) := by decide +kernel
theorem dX6_weaker_26 : decode cX6_weaker 26 = .ok (.iinc 2 1, 3) := by decide +kernel
theorem dX6_weaker_29 : decode cX6_weaker 29 = .ok (.iinc 3 1, 3) := by decide +kernel
theorem dX6_weaker_32 : decode cX6_weaker 32 = .ok (.goto (-28), 3) := by decide +kernel
theorem dX6_weaker_35 : decode cX6_weaker 35 = .ok (.iload_n 2, 1) := by decide +kernel
theorem dX6_weaker_36 : decode cX6_weaker 36 = .ok (.ireturn, 1) := by decide +kernel
theorem dX6_turn_0 : decode cX6_turn 0 = .ok (.aload_n 0, 1) := by decide +kernel
theorem dX6_turn_1 : decode cX6_turn 1 = .ok (.getfield 9, 3) := by decide +kernel
theorem dX6_turn_4 : decode cX6_turn 4 = .ok (.ifCond .ne 7, 3) := by decide +kernel
theorem dX6_turn_7 : decode cX6_turn 7 = .ok (.iconst 0, 1) := by decide +kernel
theorem dX6_turn_8 : decode cX6_turn 8 = .ok (.goto 16, 3) := by decide +kernel
theorem dX6_turn_11 : decode cX6_turn 11 = .ok (.aload_n 0, 1) := by decide +kernel
theorem dX6_turn_12 : decode cX6_turn 12 = .ok (.getfield 9, 3) := by decide +kernel
theorem dX6_turn_15 : decode cX6_turn 15 = .ok (.iconst 1, 1) := by decide +kernel
theorem dX6_turn_16 : decode cX6_turn 16 = .ok (.isub, 1) := by decide +kernel
theorem dX6_turn_17 : decode cX6_turn 17 = .ok (.iload_n 1, 1) := by decide +kernel
theorem dX6_turn_18 : decode cX6_turn 18 = .ok (.aload_n 0, 1) := by decide +kernel
theorem dX6_turn_19 : decode cX6_turn 19 = .ok (.getfield 9, 3) := by decide +kernel
theorem dX6_turn_22 : decode cX6_turn 22 = .ok (.irem, 1) := by decide +kernel
theorem dX6_turn_23 : decode cX6_turn 23 = .ok (.isub, 1) := by decide +kernel
theorem dX6_turn_24 : decode cX6_turn 24 = .ok (.ireturn, 1) := by decide +kernel
theorem dX6_mayBits_0 : decode cX6_mayBits 0 = .ok (.aload_n 2, 1) := by decide +kernel
theorem dX6_mayBits_1 : decode cX6_mayBits 1 = .ok (.iload_n 3, 1) := by decide +kernel
theorem dX6_mayBits_2 : decode cX6_mayBits 2 = .ok (.iaload, 1) := by decide +kernel
theorem dX6_mayBits_3 : decode cX6_mayBits 3 = .ok (.istore 5, 2) := by decide +kernel
theorem dX6_mayBits_5 : decode cX6_mayBits 5 = .ok (.iconst 0, 1) := by decide +kernel
theorem dX6_mayBits_6 : decode cX6_mayBits 6 = .ok (.istore 6, 2) := by decide +kernel
theorem dX6_mayBits_8 : decode cX6_mayBits 8 = .ok (.aload_n 0, 1) := by decide +kernel
theorem dX6_mayBits_9 : decode cX6_mayBits 9 = .ok (.getfield 67, 3) := by decide +kernel
theorem dX6_mayBits_12 : decode cX6_mayBits 12 = .ok (.iconst 0, 1) := by decide +kernel
theorem dX6_mayBits_13 : decode cX6_mayBits 13 = .ok (.iload 5, 2) := by decide +kernel
theorem dX6_mayBits_15 : decode cX6_mayBits 15 = .ok (.iastore, 1) := by decide +kernel
theorem dX6_mayBits_16 : decode cX6_mayBits 16 = .ok (.aload_n 0, 1) := by decide +kernel
theorem dX6_mayBits_17 : decode cX6_mayBits 17 = .ok (.getfield 67, 3) := by decide +kernel
theorem dX6_mayBits_20 : decode cX6_mayBits 20 = .ok (.iconst 2, 1) := by decide +kernel
theorem dX6_mayBits_21 : decode cX6_mayBits 21 = .ok (.iload_n 3, 1) := by decide +kernel
theorem dX6_mayBits_22 : decode cX6_mayBits 22 = .ok (.iastore, 1) := by decide +kernel
theorem dX6_mayBits_23 : decode cX6_mayBits 23 = .ok (.aload_n 0, 1) := by decide +kernel
theorem dX6_mayBits_24 : decode cX6_mayBits 24 = .ok (.getfield 67, 3) := by decide +kernel
theorem dX6_mayBits_27 : decode cX6_mayBits 27 = .ok (.iconst 5, 1) := by decide +kernel
theorem dX6_mayBits_28 : decode cX6_mayBits 28 = .ok (.iload 4, 2) := by decide +kernel
theorem dX6_mayBits_30 : decode cX6_mayBits 30 = .ok (.bipush 7, 2) := by decide +kernel
theorem dX6_mayBits_32 : decode cX6_mayBits 32 = .ok (.irem, 1) := by decide +kernel
theorem dX6_mayBits_33 : decode cX6_mayBits 33 = .ok (.iastore, 1) := by decide +kernel
theorem dX6_mayBits_34 : decode cX6_mayBits 34 = .ok (.iconst 1, 1) := by decide +kernel
theorem dX6_mayBits_35 : decode cX6_mayBits 35 = .ok (.istore 7, 2) := by decide +kernel
theorem dX6_mayBits_37 : decode cX6_mayBits 37 = .ok (.iload 7, 2) := by decide +kernel
theorem dX6_mayBits_39 : decode cX6_mayBits 39 = .ok (.aload_n 1, 1) := by decide +kernel
theorem dX6_mayBits_40 : decode cX6_mayBits 40 = .ok (.getfield 87, 3) := by decide +kernel
theorem dX6_mayBits_43 : decode cX6_mayBits 43 = .ok (.if_icmp .gt 75, 3) := by decide +kernel
theorem dX6_mayBits_46 : decode cX6_mayBits 46 = .ok (.iload 7, 2) := by decide +kernel
theorem dX6_mayBits_48 : decode cX6_mayBits 48 = .ok (.iload_n 3, 1) := by decide +kernel
theorem dX6_mayBits_49 : decode cX6_mayBits 49 = .ok (.if_icmp .gt 69, 3) := by decide +kernel
theorem dX6_mayBits_52 : decode cX6_mayBits 52 = .ok (.aload_n 2, 1) := by decide +kernel
theorem dX6_mayBits_53 : decode cX6_mayBits 53 = .ok (.iload_n 3, 1) := by decide +kernel
theorem dX6_mayBits_54 : decode cX6_mayBits 54 = .ok (.iload 7, 2) := by decide +kernel
theorem dX6_mayBits_56 : decode cX6_mayBits 56 = .ok (.isub, 1) := by decide +kernel
theorem dX6_mayBits_57 : decode cX6_mayBits 57 = .ok (.iaload, 1) := by decide +kernel
theorem dX6_mayBits_58 : decode cX6_mayBits 58 = .ok (.istore 8, 2) := by decide +kernel
theorem dX6_mayBits_60 : decode cX6_mayBits 60 = .ok (.aload_n 0, 1) := by decide +kernel
theorem dX6_mayBits_61 : decode cX6_mayBits 61 = .ok (.getfield 67, 3) := by decide +kernel
theorem dX6_mayBits_64 : decode cX6_mayBits 64 = .ok (.iconst 1, 1) := by decide +kernel
theorem dX6_mayBits_65 : decode cX6_mayBits 65 = .ok (.iload 8, 2) := by decide +kernel
theorem dX6_mayBits_67 : decode cX6_mayBits 67 = .ok (.iastore, 1) := by decide +kernel
theorem dX6_mayBits_68 : decode cX6_mayBits 68 = .ok (.aload_n 0, 1) := by decide +kernel
theorem dX6_mayBits_69 : decode cX6_mayBits 69 = .ok (.getfield 67, 3) := by decide +kernel
theorem dX6_mayBits_72 : decode cX6_mayBits 72 = .ok (.iconst 3, 1) := by decide +kernel
theorem dX6_mayBits_73 : decode cX6_mayBits 73 = .ok (.iload 7, 2) := by decide +kernel
theorem dX6_mayBits_75 : decode cX6_mayBits 75 = .ok (.iastore, 1) := by decide +kernel
theorem dX6_mayBits_76 : decode cX6_mayBits 76 = .ok (.aload_n 0, 1) := by decide +kernel
theorem dX6_mayBits_77 : decode cX6_mayBits 77 = .ok (.getfield 67, 3) := by decide +kernel
theorem dX6_mayBits_80 : decode cX6_mayBits 80 = .ok (.iconst 4, 1) := by decide +kernel
theorem dX6_mayBits_81 : decode cX6_mayBits 81 = .ok (.aload_n 0, 1) := by decide +kernel
theorem dX6_mayBits_82 : decode cX6_mayBits 82 = .ok (.getfield 21, 3) := by decide +kernel
theorem dX6_mayBits_85 : decode cX6_mayBits 85 = .ok (.iload 5, 2) := by decide +kernel
theorem dX6_mayBits_87 : decode cX6_mayBits 87 = .ok (.aaload, 1) := by decide +kernel
theorem dX6_mayBits_88 : decode cX6_mayBits 88 = .ok (.iload 8, 2) := by decide +kernel
theorem dX6_mayBits_90 : decode cX6_mayBits 90 = .ok (.iaload, 1) := by decide +kernel
theorem dX6_mayBits_91 : decode cX6_mayBits 91 = .ok (.iastore, 1) := by decide +kernel
theorem dX6_mayBits_92 : decode cX6_mayBits 92 = .ok (.aload_n 1, 1) := by decide +kernel
theorem dX6_mayBits_93 : decode cX6_mayBits 93 = .ok (.aload_n 0, 1) := by decide +kernel
theorem dX6_mayBits_94 : decode cX6_mayBits 94 = .ok (.getfield 67, 3) := by decide +kernel
theorem dX6_mayBits_97 : decode cX6_mayBits 97 = .ok (.invokevirtual 90, 3) := by decide +kernel
theorem dX6_mayBits_100 : decode cX6_mayBits 100 = .ok (.ifCond .eq 12, 3) := by decide +kernel
theorem dX6_mayBits_103 : decode cX6_mayBits 103 = .ok (.iload 6, 2) := by decide +kernel
theorem dX6_mayBits_105 : decode cX6_mayBits 105 = .ok (.iconst 1, 1) := by decide +kernel
theorem dX6_mayBits_106 : decode cX6_mayBits 106 = .ok (.iload 8, 2) := by decide +kernel
theorem dX6_mayBits_108 : decode cX6_mayBits 108 = .ok (.ishl, 1) := by decide +kernel
theorem dX6_mayBits_109 : decode cX6_mayBits 109 = .ok (.ior, 1) := by decide +kernel
theorem dX6_mayBits_110 : decode cX6_mayBits 110 = .ok (.istore 6, 2) := by decide +kernel
theorem dX6_mayBits_112 : decode cX6_mayBits 112 = .ok (.iinc 7 1, 3) := by decide +kernel
theorem dX6_mayBits_115 : decode cX6_mayBits 115 = .ok (.goto (-78), 3) := by decide +kernel
theorem dX6_mayBits_118 : decode cX6_mayBits 118 = .ok (.iload 6, 2) := by decide +kernel
theorem dX6_mayBits_120 : decode cX6_mayBits 120 = .ok (.ireturn, 1) := by decide +kernel
theorem dX6_whom_0 : decode cX6_whom 0 = .ok (.aload_n 0, 1) := by decide +kernel
theorem dX6_whom_1 : decode cX6_whom 1 = .ok (.aload_n 1, 1) := by decide +kernel
theorem dX6_whom_2 : decode cX6_whom 2 = .ok (.aload_n 2, 1) := by decide +kernel
theorem dX6_whom_3 : decode cX6_whom 3 = .ok (.iload_n 3, 1) := by decide +kernel
theorem dX6_whom_4 : decode cX6_whom 4 = .ok (.iload 4, 2) := by decide +kernel
theorem dX6_whom_6 : decode cX6_whom 6 = .ok (.invokevirtual 94, 3) := by decide +kernel
theorem dX6_whom_9 : decode cX6_whom 9 = .ok (.iload 5, 2) := by decide +kernel
theorem dX6_whom_11 : decode cX6_whom 11 = .ok (.iconst (-1), 1) := by decide +kernel
theorem dX6_whom_12 : decode cX6_whom 12 = .ok (.ixor, 1) := by decide +kernel
theorem dX6_whom_13 : decode cX6_whom 13 = .ok (.iand, 1) := by decide +kernel
theorem dX6_whom_14 : decode cX6_whom 14 = .ok (.istore 6, 2) := by decide +kernel
theorem dX6_whom_16 : decode cX6_whom 16 = .ok (.iload 6, 2) := by decide +kernel
theorem dX6_whom_18 : decode cX6_whom 18 = .ok (.ifCond .ne 8, 3) := by decide +kernel
theorem dX6_whom_21 : decode cX6_whom 21 = .ok (.bipush (-5), 2) := by decide +kernel
theorem dX6_whom_23 : decode cX6_whom 23 = .ok (.goto 23, 3) := by decide +kernel
theorem dX6_whom_26 : decode cX6_whom 26 = .ok (.aload_n 0, 1) := by decide +kernel
theorem dX6_whom_27 : decode cX6_whom 27 = .ok (.getfield 29, 3) := by decide +kernel
theorem dX6_whom_30 : decode cX6_whom 30 = .ok (.aload_n 2, 1) := by decide +kernel
theorem dX6_whom_31 : decode cX6_whom 31 = .ok (.iload_n 3, 1) := by decide +kernel
theorem dX6_whom_32 : decode cX6_whom 32 = .ok (.iaload, 1) := by decide +kernel
theorem dX6_whom_33 : decode cX6_whom 33 = .ok (.aaload, 1) := by decide +kernel
theorem dX6_whom_34 : decode cX6_whom 34 = .ok (.aload_n 0, 1) := by decide +kernel
theorem dX6_whom_35 : decode cX6_whom 35 = .ok (.getfield 21, 3) := by decide +kernel
theorem dX6_whom_38 : decode cX6_whom 38 = .ok (.aload_n 1, 1) := by decide +kernel
theorem dX6_whom_39 : decode cX6_whom 39 = .ok (.aload_n 2, 1) := by decide +kernel
theorem dX6_whom_40 : decode cX6_whom 40 = .ok (.iload_n 3, 1) := by decide +kernel
theorem dX6_whom_41 : decode cX6_whom 41 = .ok (.iload 6, 2) := by decide +kernel
theorem dX6_whom_43 : decode cX6_whom 43 = .ok (.invokevirtual 98, 3) := by decide +kernel
theorem dX6_whom_46 : decode cX6_whom 46 = .ok (.ireturn, 1) := by decide +kernel
theorem dX6_hasRungsOfRounds_0 : decode cX6_hasRungsOfRounds 0 = .ok (.iconst 0, 1) := by decide +kernel
theorem dX6_hasRungsOfRounds_1 : decode cX6_hasRungsOfRounds 1 = .ok (.istore_n 1, 1) := by decide +kernel
theorem dX6_hasRungsOfRounds_2 : decode cX6_hasRungsOfRounds 2 = .ok (.iload_n 1, 1) := by decide +kernel
theorem dX6_hasRungsOfRounds_3 : decode cX6_hasRungsOfRounds 3 = .ok (.aload_n 0, 1) := by decide +kernel
theorem dX6_hasRungsOfRounds_4 : decode cX6_hasRungsOfRounds 4 = .ok (.getfield 61, 3) := by decide +kernel
theorem dX6_hasRungsOfRounds_7 : decode cX6_hasRungsOfRounds 7 = .ok (.if_icmp .ge 24, 3) := by decide +kernel
theorem dX6_hasRungsOfRounds_10 : decode cX6_hasRungsOfRounds 10 = .ok (.aload_n 0, 1) := by decide +kernel
theorem dX6_hasRungsOfRounds_11 : decode cX6_hasRungsOfRounds 11 = .ok (.getfield 58, 3) := by decide +kernel
theorem dX6_hasRungsOfRounds_14 : decode cX6_hasRungsOfRounds 14 = .ok (.iload_n 1, 1) := by decide +kernel
theorem dX6_hasRungsOfRounds_15 : decode cX6_hasRungsOfRounds 15 = .ok (.iaload, 1) := by decide +kernel
theorem dX6_hasRungsOfRounds_16 : decode cX6_hasRungsOfRounds 16 = .ok (.aload_n 0, 1) := by decide +kernel
theorem dX6_hasRungsOfRounds_17 : decode cX6_hasRungsOfRounds 17 = .ok (.getfield 9, 3) := by decide +kernel
theorem dX6_hasRungsOfRounds_20 : decode cX6_hasRungsOfRounds 20 = .ok (.if_icmp .lt 5, 3) := by decide +kernel
theorem dX6_hasRungsOfRounds_23 : decode cX6_hasRungsOfRounds 23 = .ok (.iconst 0, 1) := by decide +kernel
theorem dX6_hasRungsOfRounds_24 : decode cX6_hasRungsOfRounds 24 = .ok (.ireturn, 1) := by decide +kernel
theorem dX6_hasRungsOfRounds_25 : decode cX6_hasRungsOfRounds 25 = .ok (.iinc 1 1, 3) := by decide +kernel
theorem dX6_hasRungsOfRounds_28 : decode cX6_hasRungsOfRounds 28 = .ok (.goto (-26), 3) := by decide +kernel
theorem dX6_hasRungsOfRounds_31 : decode cX6_hasRungsOfRounds 31 = .ok (.iconst 1, 1) := by decide +kernel
theorem dX6_hasRungsOfRounds_32 : decode cX6_hasRungsOfRounds 32 = .ok (.ireturn, 1) := by decide +kernel
theorem dX6_playRounds_0 : decode cX6_playRounds 0 = .ok (.iconst 0, 1) := by decide +kernel
theorem dX6_playRounds_1 : decode cX6_playRounds 1 = .ok (.istore_n 2, 1) := by decide +kernel
theorem dX6_playRounds_2 : decode cX6_playRounds 2 = .ok (.iload_n 2, 1) := by decide +kernel
theorem dX6_playRounds_3 : decode cX6_playRounds 3 = .ok (.aload_n 0, 1) := by decide +kernel
theorem dX6_playRounds_4 : decode cX6_playRounds 4 = .ok (.getfield 61, 3) := by decide +kernel
theorem dX6_playRounds_7 : decode cX6_playRounds 7 = .ok (.if_icmp .ge 48, 3) := by decide +kernel
theorem dX6_playRounds_10 : decode cX6_playRounds 10 = .ok (.aload_n 0, 1) := by decide +kernel
theorem dX6_playRounds_11 : decode cX6_playRounds 11 = .ok (.aload_n 1, 1) := by decide +kernel
theorem dX6_playRounds_12 : decode cX6_playRounds 12 = .ok (.aload_n 0, 1) := by decide +kernel
theorem dX6_playRounds_13 : decode cX6_playRounds 13 = .ok (.getfield 58, 3) := by decide +kernel
theorem dX6_playRounds_16 : decode cX6_playRounds 16 = .ok (.iload_n 2, 1) := by decide +kernel
theorem dX6_playRounds_17 : decode cX6_playRounds 17 = .ok (.iaload, 1) := by decide +kernel
theorem dX6_playRounds_18 : decode cX6_playRounds 18 = .ok (.iaload, 1) := by decide +kernel
theorem dX6_playRounds_19 : decode cX6_playRounds 19 = .ok (.aload_n 1, 1) := by decide +kernel
theorem dX6_playRounds_20 : decode cX6_playRounds 20 = .ok (.aload_n 0, 1) := by decide +kernel
theorem dX6_playRounds_21 : decode cX6_playRounds 21 = .ok (.getfield 55, 3) := by decide +kernel
theorem dX6_playRounds_24 : decode cX6_playRounds 24 = .ok (.iload_n 2, 1) := by decide +kernel
theorem dX6_playRounds_25 : decode cX6_playRounds 25 = .ok (.iaload, 1) := by decide +kernel
theorem dX6_playRounds_26 : decode cX6_playRounds 26 = .ok (.iaload, 1) := by decide +kernel
theorem dX6_playRounds_27 : decode cX6_playRounds 27 = .ok (.invokevirtual 83, 3) := by decide +kernel
theorem dX6_playRounds_30 : decode cX6_playRounds 30 = .ok (.ifCond .eq 19, 3) := by decide +kernel
theorem dX6_playRounds_33 : decode cX6_playRounds 33 = .ok (.aload_n 1, 1) := by decide +kernel
theorem dX6_playRounds_34 : decode cX6_playRounds 34 = .ok (.aload_n 0, 1) := by decide +kernel
theorem dX6_playRounds_35 : decode cX6_playRounds 35 = .ok (.getfield 55, 3) := by decide +kernel
theorem dX6_playRounds_38 : decode cX6_playRounds 38 = .ok (.iload_n 2, 1) := by decide +kernel
theorem dX6_playRounds_39 : decode cX6_playRounds 39 = .ok (.iaload, 1) := by decide +kernel
theorem dX6_playRounds_40 : decode cX6_playRounds 40 = .ok (.aload_n 0, 1) := by decide +kernel
theorem dX6_playRounds_41 : decode cX6_playRounds 41 = .ok (.getfield 58, 3) := by decide +kernel
theorem dX6_playRounds_44 : decode cX6_playRounds 44 = .ok (.iload_n 2, 1) := by decide +kernel
theorem dX6_playRounds_45 : decode cX6_playRounds 45 = .ok (.iaload, 1) := by decide +kernel
theorem dX6_playRounds_46 : decode cX6_playRounds 46 = .ok (.invokestatic 102, 3) := by decide +kernel
theorem dX6_playRounds_49 : decode cX6_playRounds 49 = .ok (.iinc 2 1, 3) := by decide +kernel
theorem dX6_playRounds_52 : decode cX6_playRounds 52 = .ok (.goto (-50), 3) := by decide +kernel
theorem dX6_playRounds_55 : decode cX6_playRounds 55 = .ok (.return_, 1) := by decide +kernel
theorem dX6_isSettled_0 : decode cX6_isSettled 0 = .ok (.iconst 1, 1) := by decide +kernel
theorem dX6_isSettled_1 : decode cX6_isSettled 1 = .ok (.istore_n 2, 1) := by decide +kernel
theorem dX6_isSettled_2 : decode cX6_isSettled 2 = .ok (.iload_n 2, 1) := by decide +kernel
theorem dX6_isSettled_3 : decode cX6_isSettled 3 = .ok (.aload_n 0, 1) := by decide +kernel
theorem dX6_isSettled_4 : decode cX6_isSettled 4 = .ok (.getfield 9, 3) := by decide +kernel
theorem dX6_isSettled_7 : decode cX6_isSettled 7 = .ok (.if_icmp .ge 26, 3) := by decide +kernel
theorem dX6_isSettled_10 : decode cX6_isSettled 10 = .ok (.aload_n 0, 1) := by decide +kernel
theorem dX6_isSettled_11 : decode cX6_isSettled 11 = .ok (.aload_n 1, 1) := by decide +kernel
theorem dX6_isSettled_12 : decode cX6_isSettled 12 = .ok (.iload_n 2, 1) := by decide +kernel
theorem dX6_isSettled_13 : decode cX6_isSettled 13 = .ok (.iaload, 1) := by decide +kernel
theorem dX6_isSettled_14 : decode cX6_isSettled 14 = .ok (.aload_n 1, 1) := by decide +kernel
theorem dX6_isSettled_15 : decode cX6_isSettled 15 = .ok (.iload_n 2, 1) := by decide +kernel
theorem dX6_isSettled_16 : decode cX6_isSettled 16 = .ok (.iconst 1, 1) := by decide +kernel
theorem dX6_isSettled_17 : decode cX6_isSettled 17 = .ok (.isub, 1) := by decide +kernel
theorem dX6_isSettled_18 : decode cX6_isSettled 18 = .ok (.iaload, 1) := by decide +kernel
theorem dX6_isSettled_19 : decode cX6_isSettled 19 = .ok (.invokevirtual 83, 3) := by decide +kernel
theorem dX6_isSettled_22 : decode cX6_isSettled 22 = .ok (.ifCond .eq 5, 3) := by decide +kernel
theorem dX6_isSettled_25 : decode cX6_isSettled 25 = .ok (.iconst 0, 1) := by decide +kernel
theorem dX6_isSettled_26 : decode cX6_isSettled 26 = .ok (.ireturn, 1) := by decide +kernel
theorem dX6_isSettled_27 : decode cX6_isSettled 27 = .ok (.iinc 2 1, 3) := by decide +kernel
theorem dX6_isSettled_30 : decode cX6_isSettled 30 = .ok (.goto (-28), 3) := by decide +kernel
theorem dX6_isSettled_33 : decode cX6_isSettled 33 = .ok (.iconst 1, 1) := by decide +kernel
theorem dX6_isSettled_34 : decode cX6_isSettled 34 = .ok (.ireturn, 1) := by decide +kernel
theorem dX6_threes_0 : decode cX6_threes 0 = .ok (.iconst 0, 1) := by decide +kernel
theorem dX6_threes_1 : decode cX6_threes 1 = .ok (.istore_n 1, 1) := by decide +kernel
theorem dX6_threes_2 : decode cX6_threes 2 = .ok (.iconst 0, 1) := by decide +kernel
theorem dX6_threes_3 : decode cX6_threes 3 = .ok (.istore_n 2, 1) := by decide +kernel
theorem dX6_threes_4 : decode cX6_threes 4 = .ok (.iload_n 2, 1) := by decide +kernel
theorem dX6_threes_5 : decode cX6_threes 5 = .ok (.aload_n 0, 1) := by decide +kernel
theorem dX6_threes_6 : decode cX6_threes 6 = .ok (.getfield 9, 3) := by decide +kernel
theorem dX6_threes_9 : decode cX6_threes 9 = .ok (.if_icmp .ge 79, 3) := by decide +kernel
theorem dX6_threes_12 : decode cX6_threes 12 = .ok (.iload_n 2, 1) := by decide +kernel
theorem dX6_threes_13 : decode cX6_threes 13 = .ok (.iconst 1, 1) := by decide +kernel
theorem dX6_threes_14 : decode cX6_threes 14 = .ok (.iadd, 1) := by decide +kernel
theorem dX6_threes_15 : decode cX6_threes 15 = .ok (.istore_n 3, 1) := by decide +kernel
theorem dX6_threes_16 : decode cX6_threes 16 = .ok (.iload_n 3, 1) := by decide +kernel
theorem dX6_threes_17 : decode cX6_threes 17 = .ok (.aload_n 0, 1) := by decide +kernel
theorem dX6_threes_18 : decode cX6_threes 18 = .ok (.getfield 9, 3) := by decide +kernel
theorem dX6_threes_21 : decode cX6_threes 21 = .ok (.if_icmp .ge 61, 3) := by decide +kernel
theorem dX6_threes_24 : decode cX6_threes 24 = .ok (.iload_n 2, 1) := by decide +kernel
theorem dX6_threes_25 : decode cX6_threes 25 = .ok (.iconst 1, 1) := by decide +kernel
theorem dX6_threes_26 : decode cX6_threes 26 = .ok (.iadd, 1) := by decide +kernel
theorem dX6_threes_27 : decode cX6_threes 27 = .ok (.istore 4, 2) := by decide +kernel
theorem dX6_threes_29 : decode cX6_threes 29 = .ok (.iload 4, 2) := by decide +kernel
theorem dX6_threes_31 : decode cX6_threes 31 = .ok (.aload_n 0, 1) := by decide +kernel
theorem dX6_threes_32 : decode cX6_threes 32 = .ok (.getfield 9, 3) := by decide +kernel
theorem dX6_threes_35 : decode cX6_threes 35 = .ok (.if_icmp .ge 41, 3) := by decide +kernel
theorem dX6_threes_38 : decode cX6_threes 38 = .ok (.aload_n 0, 1) := by decide +kernel
theorem dX6_threes_39 : decode cX6_threes 39 = .ok (.iload_n 2, 1) := by decide +kernel
theorem dX6_threes_40 : decode cX6_threes 40 = .ok (.iload_n 3, 1) := by decide +kernel
theorem dX6_threes_41 : decode cX6_threes 41 = .ok (.invokevirtual 106, 3) := by decide +kernel
theorem dX6_threes_44 : decode cX6_threes 44 = .ok (.ifCond .eq 26, 3) := by decide +kernel
theorem dX6_threes_47 : decode cX6_threes 47 = .ok (.aload_n 0, 1) := by decide +kernel
theorem dX6_threes_48 : decode cX6_threes 48 = .ok (.iload_n 3, 1) := by decide +kernel
theorem dX6_threes_49 : decode cX6_threes 49 = .ok (.iload 4, 2) := by decide +kernel
theorem dX6_threes_51 : decode cX6_threes 51 = .ok (.invokevirtual 106, 3) := by decide +kernel
theorem dX6_threes_54 : decode cX6_threes 54 = .ok (.ifCond .eq 16, 3) := by decide +kernel
theorem dX6_threes_57 : decode cX6_threes 57 = .ok (.aload_n 0, 1) := by decide +kernel
theorem dX6_threes_58 : decode cX6_threes 58 = .ok (.iload 4, 2) := by decide +kernel
theorem dX6_threes_60 : decode cX6_threes 60 = .ok (.iload_n 2, 1) := by decide +kernel
theorem dX6_threes_61 : decode cX6_threes 61 = .ok (.invokevirtual 106, 3) := by decide +kernel
theorem dX6_threes_64 : decode cX6_threes 64 = .ok (.ifCond .eq 6, 3) := by decide +kernel
theorem dX6_threes_67 : decode cX6_threes 67 = .ok (.iinc 1 1, 3) := by decide +kernel
theorem dX6_threes_70 : decode cX6_threes 70 = .ok (.iinc 4 1, 3) := by decide +kernel
theorem dX6_threes_73 : decode cX6_threes 73 = .ok (.goto (-44), 3) := by decide +kernel
theorem dX6_threes_76 : decode cX6_threes 76 = .ok (.iinc 3 1, 3) := by decide +kernel
theorem dX6_threes_79 : decode cX6_threes 79 = .ok (.goto (-63), 3) := by decide +kernel
theorem dX6_threes_82 : decode cX6_threes 82 = .ok (.iinc 2 1, 3) := by decide +kernel
theorem dX6_threes_85 : decode cX6_threes 85 = .ok (.goto (-81), 3) := by decide +kernel
theorem dX6_threes_88 : decode cX6_threes 88 = .ok (.iload_n 1, 1) := by decide +kernel
theorem dX6_threes_89 : decode cX6_threes 89 = .ok (.ireturn, 1) := by decide +kernel
theorem dX6_wonMore_0 : decode cX6_wonMore 0 = .ok (.aload_n 0, 1) := by decide +kernel
theorem dX6_wonMore_1 : decode cX6_wonMore 1 = .ok (.getfield 64, 3) := by decide +kernel
theorem dX6_wonMore_4 : decode cX6_wonMore 4 = .ok (.iload_n 1, 1) := by decide +kernel
theorem dX6_wonMore_5 : decode cX6_wonMore 5 = .ok (.aaload, 1) := by decide +kernel
theorem dX6_wonMore_6 : decode cX6_wonMore 6 = .ok (.iload_n 2, 1) := by decide +kernel
theorem dX6_wonMore_7 : decode cX6_wonMore 7 = .ok (.iaload, 1) := by decide +kernel
theorem dX6_wonMore_8 : decode cX6_wonMore 8 = .ok (.aload_n 0, 1) := by decide +kernel
theorem dX6_wonMore_9 : decode cX6_wonMore 9 = .ok (.getfield 64, 3) := by decide +kernel
theorem dX6_wonMore_12 : decode cX6_wonMore 12 = .ok (.iload_n 2, 1) := by decide +kernel
theorem dX6_wonMore_13 : decode cX6_wonMore 13 = .ok (.aaload, 1) := by decide +kernel
theorem dX6_wonMore_14 : decode cX6_wonMore 14 = .ok (.iload_n 1, 1) := by decide +kernel
theorem dX6_wonMore_15 : decode cX6_wonMore 15 = .ok (.iaload, 1) := by decide +kernel
theorem dX6_wonMore_16 : decode cX6_wonMore 16 = .ok (.if_icmp .le 7, 3) := by decide +kernel
theorem dX6_wonMore_19 : decode cX6_wonMore 19 = .ok (.iconst 1, 1) := by decide +kernel
theorem dX6_wonMore_20 : decode cX6_wonMore 20 = .ok (.goto 4, 3) := by decide +kernel
theorem dX6_wonMore_23 : decode cX6_wonMore 23 = .ok (.iconst 0, 1) := by decide +kernel
theorem dX6_wonMore_24 : decode cX6_wonMore 24 = .ok (.ireturn, 1) := by decide +kernel
theorem dX6_neverAsked_0 : decode cX6_neverAsked 0 = .ok (.iconst 0, 1) := by decide +kernel
theorem dX6_neverAsked_1 : decode cX6_neverAsked 1 = .ok (.istore_n 1, 1) := by decide +kernel
theorem dX6_neverAsked_2 : decode cX6_neverAsked 2 = .ok (.iconst 0, 1) := by decide +kernel
theorem dX6_neverAsked_3 : decode cX6_neverAsked 3 = .ok (.istore_n 2, 1) := by decide +kernel
theorem dX6_neverAsked_4 : decode cX6_neverAsked 4 = .ok (.iload_n 2, 1) := by decide +kernel
theorem dX6_neverAsked_5 : decode cX6_neverAsked 5 = .ok (.aload_n 0, 1) := by decide +kernel
theorem dX6_neverAsked_6 : decode cX6_neverAsked 6 = .ok (.getfield 9, 3) := by decide +kernel
theorem dX6_neverAsked_9 : decode cX6_neverAsked 9 = .ok (.if_icmp .ge 52, 3) := by decide +kernel
theorem dX6_neverAsked_12 : decode cX6_neverAsked 12 = .ok (.iload_n 2, 1) := by decide +kernel
theorem dX6_neverAsked_13 : decode cX6_neverAsked 13 = .ok (.iconst 1, 1) := by decide +kernel
theorem dX6_neverAsked_14 : decode cX6_neverAsked 14 = .ok (.iadd, 1) := by decide +kernel
theorem dX6_neverAsked_15 : decode cX6_neverAsked 15 = .ok (.istore_n 3, 1) := by decide +kernel
theorem dX6_neverAsked_16 : decode cX6_neverAsked 16 = .ok (.iload_n 3, 1) := by decide +kernel
theorem dX6_neverAsked_17 : decode cX6_neverAsked 17 = .ok (.aload_n 0, 1) := by decide +kernel
theorem dX6_neverAsked_18 : decode cX6_neverAsked 18 = .ok (.getfield 9, 3) := by decide +kernel
theorem dX6_neverAsked_21 : decode cX6_neverAsked 21 = .ok (.if_icmp .ge 34, 3) := by decide +kernel
theorem dX6_neverAsked_24 : decode cX6_neverAsked 24 = .ok (.aload_n 0, 1) := by decide +kernel
theorem dX6_neverAsked_25 : decode cX6_neverAsked 25 = .ok (.getfield 64, 3) := by decide +kernel
theorem dX6_neverAsked_28 : decode cX6_neverAsked 28 = .ok (.iload_n 2, 1) := by decide +kernel
theorem dX6_neverAsked_29 : decode cX6_neverAsked 29 = .ok (.aaload, 1) := by decide +kernel
theorem dX6_neverAsked_30 : decode cX6_neverAsked 30 = .ok (.iload_n 3, 1) := by decide +kernel
theorem dX6_neverAsked_31 : decode cX6_neverAsked 31 = .ok (.iaload, 1) := by decide +kernel
theorem dX6_neverAsked_32 : decode cX6_neverAsked 32 = .ok (.ifCond .ne 17, 3) := by decide +kernel
theorem dX6_neverAsked_35 : decode cX6_neverAsked 35 = .ok (.aload_n 0, 1) := by decide +kernel
theorem dX6_neverAsked_36 : decode cX6_neverAsked 36 = .ok (.getfield 64, 3) := by decide +kernel
theorem dX6_neverAsked_39 : decode cX6_neverAsked 39 = .ok (.iload_n 3, 1) := by decide +kernel
theorem dX6_neverAsked_40 : decode cX6_neverAsked 40 = .ok (.aaload, 1) := by decide +kernel
theorem dX6_neverAsked_41 : decode cX6_neverAsked 41 = .ok (.iload_n 2, 1) := by decide +kernel
theorem dX6_neverAsked_42 : decode cX6_neverAsked 42 = .ok (.iaload, 1) := by decide +kernel
theorem dX6_neverAsked_43 : decode cX6_neverAsked 43 = .ok (.ifCond .ne 6, 3) := by decide +kernel
theorem dX6_neverAsked_46 : decode cX6_neverAsked 46 = .ok (.iinc 1 1, 3) := by decide +kernel
theorem dX6_neverAsked_49 : decode cX6_neverAsked 49 = .ok (.iinc 3 1, 3) := by decide +kernel
theorem dX6_neverAsked_52 : decode cX6_neverAsked 52 = .ok (.goto (-36), 3) := by decide +kernel
theorem dX6_neverAsked_55 : decode cX6_neverAsked 55 = .ok (.iinc 2 1, 3) := by decide +kernel
theorem dX6_neverAsked_58 : decode cX6_neverAsked 58 = .ok (.goto (-54), 3) := by decide +kernel
theorem dX6_neverAsked_61 : decode cX6_neverAsked 61 = .ok (.iload_n 1, 1) := by decide +kernel
theorem dX6_neverAsked_62 : decode cX6_neverAsked 62 = .ok (.ireturn, 1) := by decide +kernel
theorem dX6_wonFromBelow_0 : decode cX6_wonFromBelow 0 = .ok (.iconst 0, 1) := by decide +kernel
theorem dX6_wonFromBelow_1 : decode cX6_wonFromBelow 1 = .ok (.istore_n 2, 1) := by decide +kernel
theorem dX6_wonFromBelow_2 : decode cX6_wonFromBelow 2 = .ok (.iconst 0, 1) := by decide +kernel
theorem dX6_wonFromBelow_3 : decode cX6_wonFromBelow 3 = .ok (.istore_n 3, 1) := by decide +kernel
theorem dX6_wonFromBelow_4 : decode cX6_wonFromBelow 4 = .ok (.iload_n 3, 1) := by decide +kernel
theorem dX6_wonFromBelow_5 : decode cX6_wonFromBelow 5 = .ok (.aload_n 0, 1) := by decide +kernel
theorem dX6_wonFromBelow_6 : decode cX6_wonFromBelow 6 = .ok (.getfield 9, 3) := by decide +kernel
theorem dX6_wonFromBelow_9 : decode cX6_wonFromBelow 9 = .ok (.if_icmp .ge 45, 3) := by decide +kernel
theorem dX6_wonFromBelow_12 : decode cX6_wonFromBelow 12 = .ok (.iload_n 3, 1) := by decide +kernel
theorem dX6_wonFromBelow_13 : decode cX6_wonFromBelow 13 = .ok (.iconst 1, 1) := by decide +kernel
theorem dX6_wonFromBelow_14 : decode cX6_wonFromBelow 14 = .ok (.iadd, 1) := by decide +kernel
theorem dX6_wonFromBelow_15 : decode cX6_wonFromBelow 15 = .ok (.istore 4, 2) := by decide +kernel
theorem dX6_wonFromBelow_17 : decode cX6_wonFromBelow 17 = .ok (.iload 4, 2) := by decide +kernel
theorem dX6_wonFromBelow_19 : decode cX6_wonFromBelow 19 = .ok (.aload_n 0, 1) := by decide +kernel
theorem dX6_wonFromBelow_20 : decode cX6_wonFromBelow 20 = .ok (.getfield 9, 3) := by decide +kernel
theorem dX6_wonFromBelow_23 : decode cX6_wonFromBelow 23 = .ok (.if_icmp .ge 25, 3) := by decide +kernel
theorem dX6_wonFromBelow_26 : decode cX6_wonFromBelow 26 = .ok (.iload_n 2, 1) := by decide +kernel
theorem dX6_wonFromBelow_27 : decode cX6_wonFromBelow 27 = .ok (.aload_n 0, 1) := by decide +kernel
theorem dX6_wonFromBelow_28 : decode cX6_wonFromBelow 28 = .ok (.getfield 64, 3) := by decide +kernel
theorem dX6_wonFromBelow_31 : decode cX6_wonFromBelow 31 = .ok (.aload_n 1, 1) := by decide +kernel
theorem dX6_wonFromBelow_32 : decode cX6_wonFromBelow 32 = .ok (.iload 4, 2) := by decide +kernel
theorem dX6_wonFromBelow_34 : decode cX6_wonFromBelow 34 = .ok (.iaload, 1) := by decide +kernel
theorem dX6_wonFromBelow_35 : decode cX6_wonFromBelow 35 = .ok (.aaload, 1) := by decide +kernel
theorem dX6_wonFromBelow_36 : decode cX6_wonFromBelow 36 = .ok (.aload_n 1, 1) := by decide +kernel
theorem dX6_wonFromBelow_37 : decode cX6_wonFromBelow 37 = .ok (.iload_n 3, 1) := by decide +kernel
theorem dX6_wonFromBelow_38 : decode cX6_wonFromBelow 38 = .ok (.iaload, 1) := by decide +kernel
theorem dX6_wonFromBelow_39 : decode cX6_wonFromBelow 39 = .ok (.iaload, 1) := by decide +kernel
theorem dX6_wonFromBelow_40 : decode cX6_wonFromBelow 40 = .ok (.iadd, 1) := by decide +kernel
theorem dX6_wonFromBelow_41 : decode cX6_wonFromBelow 41 = .ok (.istore_n 2, 1) := by decide +kernel
theorem dX6_wonFromBelow_42 : decode cX6_wonFromBelow 42 = .ok (.iinc 4 1, 3) := by decide +kernel
theorem dX6_wonFromBelow_45 : decode cX6_wonFromBelow 45 = .ok (.goto (-28), 3) := by decide +kernel
theorem dX6_wonFromBelow_48 : decode cX6_wonFromBelow 48 = .ok (.iinc 3 1, 3) := by decide +kernel
theorem dX6_wonFromBelow_51 : decode cX6_wonFromBelow 51 = .ok (.goto (-47), 3) := by decide +kernel
theorem dX6_wonFromBelow_54 : decode cX6_wonFromBelow 54 = .ok (.iload_n 2, 1) := by decide +kernel
theorem dX6_wonFromBelow_55 : decode cX6_wonFromBelow 55 = .ok (.ireturn, 1) := by decide +kernel
theorem dX7_init_0 : decode cX7_init 0 = .ok (.aload_n 0, 1) := by decide +kernel
theorem dX7_init_1 : decode cX7_init 1 = .ok (.iload_n 1, 1) := by decide +kernel
theorem dX7_init_2 : decode cX7_init 2 = .ok (.iload_n 2, 1) := by decide +kernel
theorem dX7_init_3 : decode cX7_init 3 = .ok (.invokespecial 3, 3) := by decide +kernel
theorem dX7_init_6 : decode cX7_init 6 = .ok (.return_, 1) := by decide +kernel
theorem dX7_kind_0 : decode cX7_kind 0 = .ok (.iconst 1, 1) := by decide +kernel
theorem dX7_kind_1 : decode cX7_kind 1 = .ok (.ireturn, 1) := by decide +kernel
theorem dX7_pick_0 : decode cX7_pick 0 = .ok (.iload 4, 2) := by decide +kernel
theorem dX7_pick_2 : decode cX7_pick 2 = .ok (.iconst 1, 1) := by decide +kernel
theorem dX7_pick_3 : decode cX7_pick 3 = .ok (.isub, 1) := by decide +kernel
theorem dX7_pick_4 : decode cX7_pick 4 = .ok (.istore 6, 2) := by decide +kernel
theorem dX7_pick_6 : decode cX7_pick 6 = .ok (.iload 6, 2) := by decide +kernel
theorem dX7_pick_8 : decode cX7_pick 8 = .ok (.ifCond .lt 26, 3) := by decide +kernel
theorem dX7_pick_11 : decode cX7_pick 11 = .ok (.iload 5, 2) := by decide +kernel
theorem dX7_pick_13 : decode cX7_pick 13 = .ok (.aload_n 3, 1) := by decide +kernel
theorem dX7_pick_14 : decode cX7_pick 14 = .ok (.iload 6, 2) := by decide +kernel
theorem dX7_pick_16 : decode cX7_pick 16 = .ok (.iaload, 1) := by decide +kernel
theorem dX7_pick_17 : decode cX7_pick 17 = .ok (.invokestatic 11, 3) := by decide +kernel
theorem dX7_pick_20 : decode cX7_pick 20 = .ok (.ifCond .eq 8, 3) := by decide +kernel
theorem dX7_pick_23 : decode cX7_pick 23 = .ok (.aload_n 3, 1) := by decide +kernel
theorem dX7_pick_24 : decode cX7_pick 24 = .ok (.iload 6, 2) := by decide +kernel
theorem dX7_pick_26 : decode cX7_pick 26 = .ok (.iaload, 1) := by decide +kernel
theorem dX7_pick_27 : decode cX7_pick 27 = .ok (.ireturn, 1) := by decide +kernel
theorem dX7_pick_28 : decode cX7_pick 28 = .ok (.iinc 6 (-1), 3) := by decide +kernel
theorem dX7_pick_31 : decode cX7_pick 31 = .ok (.goto (-25), 3) := by decide +kernel
theorem dX7_pick_34 : decode cX7_pick 34 = .ok (.bipush (-5), 2) := by decide +kernel
theorem dX7_pick_36 : decode cX7_pick 36 = .ok (.ireturn, 1) := by decide +kernel
theorem dX7_asking_0 : decode cX7_asking 0 = .ok (.aload_n 2, 1) := by decide +kernel
theorem dX7_asking_1 : decode cX7_asking 1 = .ok (.bipush 11, 2) := by decide +kernel
theorem dX7_asking_3 : decode cX7_asking 3 = .ok (.invokestatic 15, 3) := by decide +kernel
theorem dX7_asking_6 : decode cX7_asking 6 = .ok (.aload_n 0, 1) := by decide +kernel
theorem dX7_asking_7 : decode cX7_asking 7 = .ok (.iload_n 1, 1) := by decide +kernel
theorem dX7_asking_8 : decode cX7_asking 8 = .ok (.iconst 3, 1) := by decide +kernel
theorem dX7_asking_9 : decode cX7_asking 9 = .ok (.imul, 1) := by decide +kernel
theorem dX7_asking_10 : decode cX7_asking 10 = .ok (.aload_n 2, 1) := by decide +kernel
theorem dX7_asking_11 : decode cX7_asking 11 = .ok (.invokespecial 19, 3) := by decide +kernel
theorem dX7_asking_14 : decode cX7_asking 14 = .ok (.ireturn, 1) := by decide +kernel
theorem dX8_init_0 : decode cX8_init 0 = .ok (.aload_n 0, 1) := by decide +kernel
theorem dX8_init_1 : decode cX8_init 1 = .ok (.iload_n 1, 1) := by decide +kernel
theorem dX8_init_2 : decode cX8_init 2 = .ok (.iload_n 2, 1) := by decide +kernel
theorem dX8_init_3 : decode cX8_init 3 = .ok (.invokespecial 3, 3) := by decide +kernel
theorem dX8_init_6 : decode cX8_init 6 = .ok (.return_, 1) := by decide +kernel
theorem dX8_kind_0 : decode cX8_kind 0 = .ok (.bipush 6, 2) := by decide +kernel
theorem dX8_kind_2 : decode cX8_kind 2 = .ok (.ireturn, 1) := by decide +kernel
theorem dX8_pick_0 : decode cX8_pick 0 = .ok (.bipush (-5), 2) := by decide +kernel
theorem dX8_pick_2 : decode cX8_pick 2 = .ok (.ireturn, 1) := by decide +kernel
theorem dX8_taking_0 : decode cX8_taking 0 = .ok (.aload_n 2, 1) := by decide +kernel
theorem dX8_taking_1 : decode cX8_taking 1 = .ok (.bipush 61, 2) := by decide +kernel
theorem dX8_taking_3 : decode cX8_taking 3 = .ok (.invokestatic 11, 3) := by decide +kernel
theorem dX8_taking_6 : decode cX8_taking 6 = .ok (.aload_n 0, 1) := by decide +kernel
theorem dX8_taking_7 : decode cX8_taking 7 = .ok (.iload_n 1, 1) := by decide +kernel
theorem dX8_taking_8 : decode cX8_taking 8 = .ok (.aload_n 2, 1) := by decide +kernel
theorem dX8_taking_9 : decode cX8_taking 9 = .ok (.invokespecial 15, 3) := by decide +kernel
theorem dX8_taking_12 : decode cX8_taking 12 = .ok (.aload_n 0, 1) := by decide +kernel
theorem dX8_taking_13 : decode cX8_taking 13 = .ok (.invokevirtual 19, 3) := by decide +kernel
theorem dX8_taking_16 : decode cX8_taking 16 = .ok (.iadd, 1) := by decide +kernel
theorem dX8_taking_17 : decode cX8_taking 17 = .ok (.ireturn, 1) := by decide +kernel
theorem dX9_init_0 : decode cX9_init 0 = .ok (.aload_n 0, 1) := by decide +kernel
theorem dX9_init_1 : decode cX9_init 1 = .ok (.iload_n 1, 1) := by decide +kernel
theorem dX9_init_2 : decode cX9_init 2 = .ok (.iload_n 2, 1) := by decide +kernel
theorem dX9_init_3 : decode cX9_init 3 = .ok (.invokespecial 3, 3) := by decide +kernel
theorem dX9_init_6 : decode cX9_init 6 = .ok (.return_, 1) := by decide +kernel
theorem dX9_kind_0 : decode cX9_kind 0 = .ok (.iconst 3, 1) := by decide +kernel
theorem dX9_kind_1 : decode cX9_kind 1 = .ok (.ireturn, 1) := by decide +kernel
theorem dX9_pick_0 : decode cX9_pick 0 = .ok (.iconst 0, 1) := by decide +kernel
theorem dX9_pick_1 : decode cX9_pick 1 = .ok (.istore 6, 2) := by decide +kernel
theorem dX9_pick_3 : decode cX9_pick 3 = .ok (.iload 6, 2) := by decide +kernel
theorem dX9_pick_5 : decode cX9_pick 5 = .ok (.iload 4, 2) := by decide +kernel
theorem dX9_pick_7 : decode cX9_pick 7 = .ok (.if_icmp .ge 44, 3) := by decide +kernel
theorem dX9_pick_10 : decode cX9_pick 10 = .ok (.iload 5, 2) := by decide +kernel
theorem dX9_pick_12 : decode cX9_pick 12 = .ok (.aload_n 3, 1) := by decide +kernel
theorem dX9_pick_13 : decode cX9_pick 13 = .ok (.iload 6, 2) := by decide +kernel
theorem dX9_pick_15 : decode cX9_pick 15 = .ok (.iaload, 1) := by decide +kernel
theorem dX9_pick_16 : decode cX9_pick 16 = .ok (.invokestatic 11, 3) := by decide +kernel
theorem dX9_pick_19 : decode cX9_pick 19 = .ok (.ifCond .eq 26, 3) := by decide +kernel
theorem dX9_pick_22 : decode cX9_pick 22 = .ok (.aload_n 1, 1) := by decide +kernel
theorem dX9_pick_23 : decode cX9_pick 23 = .ok (.aload_n 3, 1) := by decide +kernel
theorem dX9_pick_24 : decode cX9_pick 24 = .ok (.iload 4, 2) := by decide +kernel
theorem dX9_pick_26 : decode cX9_pick 26 = .ok (.iaload, 1) := by decide +kernel
theorem dX9_pick_27 : decode cX9_pick 27 = .ok (.aaload, 1) := by decide +kernel
theorem dX9_pick_28 : decode cX9_pick 28 = .ok (.aload_n 3, 1) := by decide +kernel
theorem dX9_pick_29 : decode cX9_pick 29 = .ok (.iload 6, 2) := by decide +kernel
theorem dX9_pick_31 : decode cX9_pick 31 = .ok (.iaload, 1) := by decide +kernel
theorem dX9_pick_32 : decode cX9_pick 32 = .ok (.iaload, 1) := by decide +kernel
theorem dX9_pick_33 : decode cX9_pick 33 = .ok (.aload_n 0, 1) := by decide +kernel
theorem dX9_pick_34 : decode cX9_pick 34 = .ok (.invokevirtual 15, 3) := by decide +kernel
theorem dX9_pick_37 : decode cX9_pick 37 = .ok (.if_icmp .lt 8, 3) := by decide +kernel
theorem dX9_pick_40 : decode cX9_pick 40 = .ok (.aload_n 3, 1) := by decide +kernel
theorem dX9_pick_41 : decode cX9_pick 41 = .ok (.iload 6, 2) := by decide +kernel
theorem dX9_pick_43 : decode cX9_pick 43 = .ok (.iaload, 1) := by decide +kernel
theorem dX9_pick_44 : decode cX9_pick 44 = .ok (.ireturn, 1) := by decide +kernel
theorem dX9_pick_45 : decode cX9_pick 45 = .ok (.iinc 6 1, 3) := by decide +kernel
theorem dX9_pick_48 : decode cX9_pick 48 = .ok (.goto (-45), 3) := by decide +kernel
theorem dX9_pick_51 : decode cX9_pick 51 = .ok (.bipush (-5), 2) := by decide +kernel
theorem dX9_pick_53 : decode cX9_pick 53 = .ok (.ireturn, 1) := by decide +kernel
theorem dX9_waiting_0 : decode cX9_waiting 0 = .ok (.aload_n 2, 1) := by decide +kernel
theorem dX9_waiting_1 : decode cX9_waiting 1 = .ok (.bipush 41, 2) := by decide +kernel
theorem dX9_waiting_3 : decode cX9_waiting 3 = .ok (.invokestatic 19, 3) := by decide +kernel
theorem dX9_waiting_6 : decode cX9_waiting 6 = .ok (.aload_n 0, 1) := by decide +kernel
theorem dX9_waiting_7 : decode cX9_waiting 7 = .ok (.iload_n 1, 1) := by decide +kernel
theorem dX9_waiting_8 : decode cX9_waiting 8 = .ok (.iconst 1, 1) := by decide +kernel
theorem dX9_waiting_9 : decode cX9_waiting 9 = .ok (.isub, 1) := by decide +kernel
theorem dX9_waiting_10 : decode cX9_waiting 10 = .ok (.aload_n 2, 1) := by decide +kernel
theorem dX9_waiting_11 : decode cX9_waiting 11 = .ok (.invokespecial 23, 3) := by decide +kernel
theorem dX9_waiting_14 : decode cX9_waiting 14 = .ok (.aload_n 0, 1) := by decide +kernel
theorem dX9_waiting_15 : decode cX9_waiting 15 = .ok (.iconst 2, 1) := by decide +kernel
theorem dX9_waiting_16 : decode cX9_waiting 16 = .ok (.aload_n 2, 1) := by decide +kernel
theorem dX9_waiting_17 : decode cX9_waiting 17 = .ok (.invokevirtual 27, 3) := by decide +kernel
theorem dX9_waiting_20 : decode cX9_waiting 20 = .ok (.iadd, 1) := by decide +kernel
theorem dX9_waiting_21 : decode cX9_waiting 21 = .ok (.ireturn, 1) := by decide +kernel
theorem dX10_init_0 : decode cX10_init 0 = .ok (.aload_n 0, 1) := by decide +kernel
theorem dX10_init_1 : decode cX10_init 1 = .ok (.iload_n 1, 1) := by decide +kernel
theorem dX10_init_2 : decode cX10_init 2 = .ok (.iload_n 2, 1) := by decide +kernel
theorem dX10_init_3 : decode cX10_init 3 = .ok (.invokespecial 3, 3) := by decide +kernel
theorem dX10_init_6 : decode cX10_init 6 = .ok (.return_, 1) := by decide +kernel
theorem dX10_kind_0 : decode cX10_kind 0 = .ok (.iconst 5, 1) := by decide +kernel
theorem dX10_kind_1 : decode cX10_kind 1 = .ok (.ireturn, 1) := by decide +kernel
theorem dX10_pick_0 : decode cX10_pick 0 = .ok (.aload_n 0, 1) := by decide +kernel
theorem dX10_pick_1 : decode cX10_pick 1 = .ok (.invokevirtual 11, 3) := by decide +kernel
theorem dX10_pick_4 : decode cX10_pick 4 = .ok (.bipush 6, 2) := by decide +kernel
theorem dX10_pick_6 : decode cX10_pick 6 = .ok (.if_icmp .ge 22, 3) := by decide +kernel
theorem dX10_pick_9 : decode cX10_pick 9 = .ok (.iload 5, 2) := by decide +kernel
theorem dX10_pick_11 : decode cX10_pick 11 = .ok (.aload_n 0, 1) := by decide +kernel
theorem dX10_pick_12 : decode cX10_pick 12 = .ok (.invokevirtual 11, 3) := by decide +kernel
theorem dX10_pick_15 : decode cX10_pick 15 = .ok (.invokestatic 15, 3) := by decide +kernel
theorem dX10_pick_18 : decode cX10_pick 18 = .ok (.ifCond .eq 10, 3) := by decide +kernel
theorem dX10_pick_21 : decode cX10_pick 21 = .ok (.aload_n 0, 1) := by decide +kernel
theorem dX10_pick_22 : decode cX10_pick 22 = .ok (.invokevirtual 11, 3) := by decide +kernel
theorem dX10_pick_25 : decode cX10_pick 25 = .ok (.goto 5, 3) := by decide +kernel
theorem dX10_pick_28 : decode cX10_pick 28 = .ok (.bipush (-5), 2) := by decide +kernel
theorem dX10_pick_30 : decode cX10_pick 30 = .ok (.ireturn, 1) := by decide +kernel
theorem dX10_waiting_0 : decode cX10_waiting 0 = .ok (.aload_n 2, 1) := by decide +kernel
theorem dX10_waiting_1 : decode cX10_waiting 1 = .ok (.bipush 31, 2) := by decide +kernel
theorem dX10_waiting_3 : decode cX10_waiting 3 = .ok (.invokestatic 19, 3) := by decide +kernel
theorem dX10_waiting_6 : decode cX10_waiting 6 = .ok (.aload_n 0, 1) := by decide +kernel
theorem dX10_waiting_7 : decode cX10_waiting 7 = .ok (.iload_n 1, 1) := by decide +kernel
theorem dX10_waiting_8 : decode cX10_waiting 8 = .ok (.aload_n 2, 1) := by decide +kernel
theorem dX10_waiting_9 : decode cX10_waiting 9 = .ok (.invokespecial 23, 3) := by decide +kernel
theorem dX10_waiting_12 : decode cX10_waiting 12 = .ok (.bipush 7, 2) := by decide +kernel
theorem dX10_waiting_14 : decode cX10_waiting 14 = .ok (.ixor, 1) := by decide +kernel
theorem dX10_waiting_15 : decode cX10_waiting 15 = .ok (.ireturn, 1) := by decide +kernel
theorem dX11_init_0 : decode cX11_init 0 = .ok (.aload_n 0, 1) := by decide +kernel
theorem dX11_init_1 : decode cX11_init 1 = .ok (.invokespecial 3, 3) := by decide +kernel
theorem dX11_init_4 : decode cX11_init 4 = .ok (.aload_n 0, 1) := by decide +kernel
theorem dX11_init_5 : decode cX11_init 5 = .ok (.new 9, 3) := by decide +kernel
theorem dX11_init_8 : decode cX11_init 8 = .ok (.dup, 1) := by decide +kernel
theorem dX11_init_9 : decode cX11_init 9 = .ok (.invokespecial 11, 3) := by decide +kernel
theorem dX11_init_12 : decode cX11_init 12 = .ok (.putfield 12, 3) := by decide +kernel
theorem dX11_init_15 : decode cX11_init 15 = .ok (.aload_n 0, 1) := by decide +kernel
theorem dX11_init_16 : decode cX11_init 16 = .ok (.new 9, 3) := by decide +kernel
theorem dX11_init_19 : decode cX11_init 19 = .ok (.dup, 1) := by decide +kernel
theorem dX11_init_20 : decode cX11_init 20 = .ok (.invokespecial 11, 3) := by decide +kernel
theorem dX11_init_23 : decode cX11_init 23 = .ok (.putfield 18, 3) := by decide +kernel
theorem dX11_init_26 : decode cX11_init 26 = .ok (.aload_n 0, 1) := by decide +kernel
theorem dX11_init_27 : decode cX11_init 27 = .ok (.iconst 0, 1) := by decide +kernel
theorem dX11_init_28 : decode cX11_init 28 = .ok (.putfield 21, 3) := by decide +kernel
theorem dX11_init_31 : decode cX11_init 31 = .ok (.aload_n 0, 1) := by decide +kernel
theorem dX11_init_32 : decode cX11_init 32 = .ok (.bipush 21, 2) := by decide +kernel
theorem dX11_init_34 : decode cX11_init 34 = .ok (.newarray .int, 2) := by decide +kernel
theorem dX11_init_36 : decode cX11_init 36 = .ok (.putfield 25, 3) := by decide +kernel
theorem dX11_init_39 : decode cX11_init 39 = .ok (.aload_n 0, 1) := by decide +kernel
theorem dX11_init_40 : decode cX11_init 40 = .ok (.new 29, 3) := by decide +kernel
theorem dX11_init_43 : decode cX11_init 43 = .ok (.dup, 1) := by decide +kernel
theorem dX11_init_44 : decode cX11_init 44 = .ok (.invokespecial 31, 3) := by decide +kernel
theorem dX11_init_47 : decode cX11_init 47 = .ok (.putfield 32, 3) := by decide +kernel
theorem dX11_init_50 : decode cX11_init 50 = .ok (.aload_n 0, 1) := by decide +kernel
theorem dX11_init_51 : decode cX11_init 51 = .ok (.new 36, 3) := by decide +kernel
theorem dX11_init_54 : decode cX11_init 54 = .ok (.dup, 1) := by decide +kernel
theorem dX11_init_55 : decode cX11_init 55 = .ok (.aload_n 0, 1) := by decide +kernel
theorem dX11_init_56 : decode cX11_init 56 = .ok (.getfield 12, 3) := by decide +kernel
theorem dX11_init_59 : decode cX11_init 59 = .ok (.invokespecial 38, 3) := by decide +kernel
theorem dX11_init_62 : decode cX11_init 62 = .ok (.putfield 41, 3) := by decide +kernel
theorem dX11_init_65 : decode cX11_init 65 = .ok (.aload_n 0, 1) := by decide +kernel
theorem dX11_init_66 : decode cX11_init 66 = .ok (.bipush 6, 2) := by decide +kernel
theorem dX11_init_68 : decode cX11_init 68 = .ok (.newarray .int, 2) := by decide +kernel
theorem dX11_init_70 : decode cX11_init 70 = .ok (.putfield 45, 3) := by decide +kernel
theorem dX11_init_73 : decode cX11_init 73 = .ok (.aload_n 0, 1) := by decide +kernel
theorem dX11_init_74 : decode cX11_init 74 = .ok (.bipush 6, 2) := by decide +kernel
theorem dX11_init_76 : decode cX11_init 76 = .ok (.newarray .int, 2) := by decide +kernel
theorem dX11_init_78 : decode cX11_init 78 = .ok (.putfield 48, 3) := by decide +kernel
theorem dX11_init_81 : decode cX11_init 81 = .ok (.aload_n 0, 1) := by decide +kernel
theorem dX11_init_82 : decode cX11_init 82 = .ok (.bipush 6, 2) := by decide +kernel
theorem dX11_init_84 : decode cX11_init 84 = .ok (.newarray .int, 2) := by decide +kernel
theorem dX11_init_86 : decode cX11_init 86 = .ok (.putfield 51, 3) := by decide +kernel
theorem dX11_init_89 : decode cX11_init 89 = .ok (.aload_n 0, 1) := by decide +kernel
theorem dX11_init_90 : decode cX11_init 90 = .ok (.bipush 6, 2) := by decide +kernel
theorem dX11_init_92 : decode cX11_init 92 = .ok (.newarray .int, 2) := by decide +kernel
theorem dX11_init_94 : decode cX11_init 94 = .ok (.putfield 54, 3) := by decide +kernel
theorem dX11_init_97 : decode cX11_init 97 = .ok (.return_, 1) := by decide +kernel
theorem dX11_name_0 : decode cX11_name 0 = .ok (.aload_n 0, 1) := by decide +kernel
theorem dX11_name_1 : decode cX11_name 1 = .ok (.getfield 12, 3) := by decide +kernel
theorem dX11_name_4 : decode cX11_name 4 = .ok (.getfield 57, 3) := by decide +kernel
theorem dX11_name_7 : decode cX11_name 7 = .ok (.bipush 6, 2) := by decide +kernel
theorem dX11_name_9 : decode cX11_name 9 = .ok (.if_icmp .lt 6, 3) := by decide +kernel
theorem dX11_name_12 : decode cX11_name 12 = .ok (.bipush (-4), 2) := by decide +kernel
theorem dX11_name_14 : decode cX11_name 14 = .ok (.ireturn, 1) := by decide +kernel
theorem dX11_name_15 : decode cX11_name 15 = .ok (.aload_n 0, 1) := by decide +kernel
theorem dX11_name_16 : decode cX11_name 16 = .ok (.getfield 12, 3) := by decide +kernel
theorem dX11_name_19 : decode cX11_name 19 = .ok (.getfield 61, 3) := by decide +kernel
theorem dX11_name_22 : decode cX11_name 22 = .ok (.aload_n 0, 1) := by decide +kernel
theorem dX11_name_23 : decode cX11_name 23 = .ok (.getfield 12, 3) := by decide +kernel
theorem dX11_name_26 : decode cX11_name 26 = .ok (.getfield 57, 3) := by decide +kernel
theorem dX11_name_29 : decode cX11_name 29 = .ok (.aload_n 0, 1) := by decide +kernel
theorem dX11_name_30 : decode cX11_name 30 = .ok (.getfield 12, 3) := by decide +kernel
theorem dX11_name_33 : decode cX11_name 33 = .ok (.getfield 57, 3) := by decide +kernel
theorem dX11_name_36 : decode cX11_name 36 = .ok (.iastore, 1) := by decide +kernel
theorem dX11_name_37 : decode cX11_name 37 = .ok (.aload_n 0, 1) := by decide +kernel
theorem dX11_name_38 : decode cX11_name 38 = .ok (.getfield 12, 3) := by decide +kernel
theorem dX11_name_41 : decode cX11_name 41 = .ok (.dup, 1) := by decide +kernel
theorem dX11_name_42 : decode cX11_name 42 = .ok (.getfield 57, 3) := by decide +kernel
theorem dX11_name_45 : decode cX11_name 45 = .ok (.iconst 1, 1) := by decide +kernel
theorem dX11_name_46 : decode cX11_name 46 = .ok (.iadd, 1) := by decide +kernel
theorem dX11_name_47 : decode cX11_name 47 = .ok (.putfield 57, 3) := by decide +kernel
theorem dX11_name_50 : decode cX11_name 50 = .ok (.aload_n 0, 1) := by decide +kernel
theorem dX11_name_51 : decode cX11_name 51 = .ok (.getfield 12, 3) := by decide +kernel
theorem dX11_name_54 : decode cX11_name 54 = .ok (.getfield 57, 3) := by decide +kernel
theorem dX11_name_57 : decode cX11_name 57 = .ok (.iconst 1, 1) := by decide +kernel
theorem dX11_name_58 : decode cX11_name 58 = .ok (.isub, 1) := by decide +kernel
theorem dX11_name_59 : decode cX11_name 59 = .ok (.ireturn, 1) := by decide +kernel
theorem dX11_chance_0 : decode cX11_chance 0 = .ok (.aload_n 0, 1) := by decide +kernel
theorem dX11_chance_1 : decode cX11_chance 1 = .ok (.iload_n 1, 1) := by decide +kernel
theorem dX11_chance_2 : decode cX11_chance 2 = .ok (.invokevirtual 64, 3) := by decide +kernel
theorem dX11_chance_5 : decode cX11_chance 5 = .ok (.ifCond .eq 11, 3) := by decide +kernel
theorem dX11_chance_8 : decode cX11_chance 8 = .ok (.aload_n 0, 1) := by decide +kernel
theorem dX11_chance_9 : decode cX11_chance 9 = .ok (.iload_n 2, 1) := by decide +kernel
theorem dX11_chance_10 : decode cX11_chance 10 = .ok (.invokevirtual 64, 3) := by decide +kernel
theorem dX11_chance_13 : decode cX11_chance 13 = .ok (.ifCond .ne 5, 3) := by decide +kernel
theorem dX11_chance_16 : decode cX11_chance 16 = .ok (.iconst (-1), 1) := by decide +kernel
theorem dX11_chance_17 : decode cX11_chance 17 = .ok (.ireturn, 1) := by decide +kernel
theorem dX11_chance_18 : decode cX11_chance 18 = .ok (.iload_n 1, 1) := by decide +kernel
theorem dX11_chance_19 : decode cX11_chance 19 = .ok (.iload_n 2, 1) := by decide +kernel
theorem dX11_chance_20 : decode cX11_chance 20 = .ok (.if_icmp .eq 13, 3) := by decide +kernel
theorem dX11_chance_23 : decode cX11_chance 23 = .ok (.iload_n 3, 1) := by decide +kernel
theorem dX11_chance_24 : decode cX11_chance 24 = .ok (.ifCond .lt 9, 3) := by decide +kernel
theorem dX11_chance_27 : decode cX11_chance 27 = .ok (.iload_n 3, 1) := by decide +kernel
theorem dX11_chance_28 : decode cX11_chance 28 = .ok (.bipush 100, 2) := by decide +kernel
theorem dX11_chance_30 : decode cX11_chance 30 = .ok (.if_icmp .le 6, 3) := by decide +kernel
theorem dX11_chance_33 : decode cX11_chance 33 = .ok (.bipush (-2), 2) := by decide +kernel
theorem dX11_chance_35 : decode cX11_chance 35 = .ok (.ireturn, 1) := by decide +kernel
theorem dX11_chance_36 : decode cX11_chance 36 = .ok (.aload_n 0, 1) := by decide +kernel
theorem dX11_chance_37 : decode cX11_chance 37 = .ok (.getfield 12, 3) := by decide +kernel
theorem dX11_chance_40 : decode cX11_chance 40 = .ok (.getfield 68, 3) := by decide +kernel
theorem dX11_chance_43 : decode cX11_chance 43 = .ok (.iload_n 1, 1) := by decide +kernel
theorem dX11_chance_44 : decode cX11_chance 44 = .ok (.aaload, 1) := by decide +kernel
theorem dX11_chance_45 : decode cX11_chance 45 = .ok (.iload_n 2, 1) := by decide +kernel
theorem dX11_chance_46 : decode cX11_chance 46 = .ok (.iaload, 1) := by decide +kernel
theorem dX11_chance_47 : decode cX11_chance 47 = .ok (.istore 4, 2) := by decide +kernel
theorem dX11_chance_49 : decode cX11_chance 49 = .ok (.aload_n 0, 1) := by decide +kernel
theorem dX11_chance_50 : decode cX11_chance 50 = .ok (.getfield 12, 3) := by decide +kernel
theorem dX11_chance_53 : decode cX11_chance 53 = .ok (.getfield 68, 3) := by decide +kernel
theorem dX11_chance_56 : decode cX11_chance 56 = .ok (.iload_n 1, 1) := by decide +kernel
theorem dX11_chance_57 : decode cX11_chance 57 = .ok (.aaload, 1) := by decide +kernel
theorem dX11_chance_58 : decode cX11_chance 58 = .ok (.iload_n 2, 1) := by decide +kernel
theorem dX11_chance_59 : decode cX11_chance 59 = .ok (.iload_n 3, 1) := by decide +kernel
theorem dX11_chance_60 : decode cX11_chance 60 = .ok (.iastore, 1) := by decide +kernel
theorem dX11_chance_61 : decode cX11_chance 61 = .ok (.aload_n 0, 1) := by decide +kernel
theorem dX11_chance_62 : decode cX11_chance 62 = .ok (.getfield 12, 3) := by decide +kernel
theorem dX11_chance_65 : decode cX11_chance 65 = .ok (.getfield 68, 3) := by decide +kernel
theorem dX11_chance_68 : decode cX11_chance 68 = .ok (.iload_n 2, 1) := by decide +kernel
theorem dX11_chance_69 : decode cX11_chance 69 = .ok (.aaload, 1) := by decide +kernel
theorem dX11_chance_70 : decode cX11_chance 70 = .ok (.iload_n 1, 1) := by decide +kernel
theorem dX11_chance_71 : decode cX11_chance 71 = .ok (.bipush 100, 2) := by decide +kernel
theorem dX11_chance_73 : decode cX11_chance 73 = .ok (.iload_n 3, 1) := by decide +kernel
theorem dX11_chance_74 : decode cX11_chance 74 = .ok (.isub, 1) := by decide +kernel
theorem dX11_chance_75 : decode cX11_chance 75 = .ok (.iastore, 1) := by decide +kernel
theorem dX11_chance_76 : decode cX11_chance 76 = .ok (.iload 4, 2) := by decide +kernel
theorem dX11_chance_78 : decode cX11_chance 78 = .ok (.ireturn, 1) := by decide +kernel
theorem dX11_beats_0 : decode cX11_beats 0 = .ok (.aload_n 0, 1) := by decide +kernel
theorem dX11_beats_1 : decode cX11_beats 1 = .ok (.iload_n 1, 1) := by decide +kernel
theorem dX11_beats_2 : decode cX11_beats 2 = .ok (.invokevirtual 64, 3) := by decide +kernel
theorem dX11_beats_5 : decode cX11_beats 5 = .ok (.ifCond .eq 11, 3) := by decide +kernel
theorem dX11_beats_8 : decode cX11_beats 8 = .ok (.aload_n 0, 1) := by decide +kernel
theorem dX11_beats_9 : decode cX11_beats 9 = .ok (.iload_n 2, 1) := by decide +kernel
theorem dX11_beats_10 : decode cX11_beats 10 = .ok (.invokevirtual 64, 3) := by decide +kernel
theorem dX11_beats_13 : decode cX11_beats 13 = .ok (.ifCond .ne 5, 3) := by decide +kernel
theorem dX11_beats_16 : decode cX11_beats 16 = .ok (.iconst (-1), 1) := by decide +kernel
theorem dX11_beats_17 : decode cX11_beats 17 = .ok (.ireturn, 1) := by decide +kernel
theorem dX11_beats_18 : decode cX11_beats 18 = .ok (.iload_n 1, 1) := by decide +kernel
theorem dX11_beats_19 : decode cX11_beats 19 = .ok (.iload_n 2, 1) := by decide +kernel
theorem dX11_beats_20 : decode cX11_beats 20 = .ok (.if_icmp .ne 8, 3) := by decide +kernel
theorem dX11_beats_23 : decode cX11_beats 23 = .ok (.bipush (-2), 2) := by decide +kernel
theorem dX11_beats_25 : decode cX11_beats 25 = .ok (.goto 14, 3) := by decide +kernel
theorem dX11_beats_28 : decode cX11_beats 28 = .ok (.aload_n 0, 1) := by decide +kernel
theorem dX11_beats_29 : decode cX11_beats 29 = .ok (.getfield 12, 3) := by decide +kernel
theorem dX11_beats_32 : decode cX11_beats 32 = .ok (.getfield 68, 3) := by decide +kernel
theorem dX11_beats_35 : decode cX11_beats 35 = .ok (.iload_n 1, 1) := by decide +kernel
theorem dX11_beats_36 : decode cX11_beats 36 = .ok (.aaload, 1) := by decide +kernel
theorem dX11_beats_37 : decode cX11_beats 37 = .ok (.iload_n 2, 1) := by decide +kernel
theorem dX11_beats_38 : decode cX11_beats 38 = .ok (.iaload, 1) := by decide +kernel
theorem dX11_beats_39 : decode cX11_beats 39 = .ok (.ireturn, 1) := by decide +kernel
theorem dX11_board_0 : decode cX11_board 0 = .ok (.aload_n 0, 1) := by decide +kernel
theorem dX11_board_1 : decode cX11_board 1 = .ok (.iload_n 1, 1) := by decide +kernel
theorem dX11_board_2 : decode cX11_board 2 = .ok (.invokevirtual 72, 3) := by decide +kernel
theorem dX11_board_5 : decode cX11_board 5 = .ok (.ifCond .eq 10, 3) := by decide +kernel
theorem dX11_board_8 : decode cX11_board 8 = .ok (.iload_n 2, 1) := by decide +kernel
theorem dX11_board_9 : decode cX11_board 9 = .ok (.invokestatic 75, 3) := by decide +kernel
theorem dX11_board_12 : decode cX11_board 12 = .ok (.ifCond .ne 5, 3) := by decide +kernel
theorem dX11_board_15 : decode cX11_board 15 = .ok (.iconst (-1), 1) := by decide +kernel
theorem dX11_board_16 : decode cX11_board 16 = .ok (.ireturn, 1) := by decide +kernel
theorem dX11_board_17 : decode cX11_board 17 = .ok (.iload_n 2, 1) := by decide +kernel
theorem dX11_board_18 : decode cX11_board 18 = .ok (.ifCond .ne 13, 3) := by decide +kernel
theorem dX11_board_21 : decode cX11_board 21 = .ok (.aload_n 0, 1) := by decide +kernel
theorem dX11_board_22 : decode cX11_board 22 = .ok (.getfield 12, 3) := by decide +kernel
theorem dX11_board_25 : decode cX11_board 25 = .ok (.getfield 61, 3) := by decide +kernel
theorem dX11_board_28 : decode cX11_board 28 = .ok (.iload_n 1, 1) := by decide +kernel
theorem dX11_board_29 : decode cX11_board 29 = .ok (.iaload, 1) := by decide +kernel
theorem dX11_board_30 : decode cX11_board 30 = .ok (.ireturn, 1) := by decide +kernel
theorem dX11_board_31 : decode cX11_board 31 = .ok (.aload_n 0, 1) := by decide +kernel
theorem dX11_board_32 : decode cX11_board 32 = .ok (.getfield 12, 3) := by decide +kernel
theorem dX11_board_35 : decode cX11_board 35 = .ok (.aload_n 0, 1) := by decide +kernel
theorem dX11_board_36 : decode cX11_board 36 = .ok (.getfield 45, 3) := by decide +kernel
theorem dX11_board_39 : decode cX11_board 39 = .ok (.invokevirtual 78, 3) := by decide +kernel
theorem dX11_board_42 : decode cX11_board 42 = .ok (.aload_n 0, 1) := by decide +kernel
theorem dX11_board_43 : decode cX11_board 43 = .ok (.getfield 45, 3) := by decide +kernel
theorem dX11_board_46 : decode cX11_board 46 = .ok (.iload_n 1, 1) := by decide +kernel
theorem dX11_board_47 : decode cX11_board 47 = .ok (.iaload, 1) := by decide +kernel
theorem dX11_board_48 : decode cX11_board 48 = .ok (.ireturn, 1) := by decide +kernel
theorem dX11_hang_0 : decode cX11_hang 0 = .ok (.aload_n 0, 1) := by decide +kernel
theorem dX11_hang_1 : decode cX11_hang 1 = .ok (.iload_n 1, 1) := by decide +kernel
theorem dX11_hang_2 : decode cX11_hang 2 = .ok (.invokevirtual 64, 3) := by decide +kernel
theorem dX11_hang_5 : decode cX11_hang 5 = .ok (.ifCond .eq 11, 3) := by decide +kernel
theorem dX11_hang_8 : decode cX11_hang 8 = .ok (.aload_n 0, 1) := by decide +kernel
theorem dX11_hang_9 : decode cX11_hang 9 = .ok (.iload_n 2, 1) := by decide +kernel
theorem dX11_hang_10 : decode cX11_hang 10 = .ok (.invokevirtual 72, 3) := by decide +kernel
theorem dX11_hang_13 : decode cX11_hang 13 = .ok (.ifCond .ne 5, 3) := by decide +kernel
theorem dX11_hang_16 : decode cX11_hang 16 = .ok (.iconst (-1), 1) := by decide +kernel
theorem dX11_hang_17 : decode cX11_hang 17 = .ok (.ireturn, 1) := by decide +kernel
theorem dX11_hang_18 : decode cX11_hang 18 = .ok (.aload_n 0, 1) := by decide +kernel
theorem dX11_hang_19 : decode cX11_hang 19 = .ok (.getfield 12, 3) := by decide +kernel
theorem dX11_hang_22 : decode cX11_hang 22 = .ok (.iload_n 1, 1) := by decide +kernel
theorem dX11_hang_23 : decode cX11_hang 23 = .ok (.invokevirtual 82, 3) := by decide +kernel
theorem dX11_hang_26 : decode cX11_hang 26 = .ok (.istore_n 3, 1) := by decide +kernel
theorem dX11_hang_27 : decode cX11_hang 27 = .ok (.aload_n 0, 1) := by decide +kernel
theorem dX11_hang_28 : decode cX11_hang 28 = .ok (.getfield 12, 3) := by decide +kernel
theorem dX11_hang_31 : decode cX11_hang 31 = .ok (.getfield 61, 3) := by decide +kernel
theorem dX11_hang_34 : decode cX11_hang 34 = .ok (.iload_n 3, 1) := by decide +kernel
theorem dX11_hang_35 : decode cX11_hang 35 = .ok (.iload_n 2, 1) := by decide +kernel
theorem dX11_hang_36 : decode cX11_hang 36 = .ok (.invokestatic 86, 3) := by decide +kernel
theorem dX11_hang_39 : decode cX11_hang 39 = .ok (.iload_n 3, 1) := by decide +kernel
theorem dX11_hang_40 : decode cX11_hang 40 = .ok (.ireturn, 1) := by decide +kernel
theorem dX11_far_0 : decode cX11_far 0 = .ok (.aload_n 0, 1) := by decide +kernel
theorem dX11_far_1 : decode cX11_far 1 = .ok (.getfield 12, 3) := by decide +kernel
theorem dX11_far_4 : decode cX11_far 4 = .ok (.aload_n 0, 1) := by decide +kernel
theorem dX11_far_5 : decode cX11_far 5 = .ok (.getfield 45, 3) := by decide +kernel
theorem dX11_far_8 : decode cX11_far 8 = .ok (.invokevirtual 78, 3) := by decide +kernel
theorem dX11_far_11 : decode cX11_far 11 = .ok (.iconst 0, 1) := by decide +kernel
theorem dX11_far_12 : decode cX11_far 12 = .ok (.istore_n 1, 1) := by decide +kernel
theorem dX11_far_13 : decode cX11_far 13 = .ok (.iconst 0, 1) := by decide +kernel
theorem dX11_far_14 : decode cX11_far 14 = .ok (.istore_n 2, 1) := by decide +kernel
theorem dX11_far_15 : decode cX11_far 15 = .ok (.iload_n 2, 1) := by decide +kernel
theorem dX11_far_16 : decode cX11_far 16 = .ok (.aload_n 0, 1) := by decide +kernel
theorem dX11_far_17 : decode cX11_far 17 = .ok (.getfield 12, 3) := by decide +kernel
theorem dX11_far_20 : decode cX11_far 20 = .ok (.getfield 57, 3) := by decide +kernel
theorem dX11_far_23 : decode cX11_far 23 = .ok (.if_icmp .ge 62, 3) := by decide +kernel
theorem dX11_far_26 : decode cX11_far 26 = .ok (.iload_n 2, 1) := by decide +kernel
theorem dX11_far_27 : decode cX11_far 27 = .ok (.iconst 1, 1) := by decide +kernel
theorem dX11_far_28 : decode cX11_far 28 = .ok (.iadd, 1) := by decide +kernel
theorem dX11_far_29 : decode cX11_far 29 = .ok (.istore_n 3, 1) := by decide +kernel
theorem dX11_far_30 : decode cX11_far 30 = .ok (.iload_n 3, 1) := by decide +kernel
theorem dX11_far_31 : decode cX11_far 31 = .ok (.aload_n 0, 1) := by decide +kernel
theorem dX11_far_32 : decode cX11_far 32 = .ok (.getfield 12, 3) := by decide +kernel
theorem dX11_far_35 : decode cX11_far 35 = .ok (.getfield 57, 3) := by decide +kernel
theorem dX11_far_38 : decode cX11_far 38 = .ok (.if_icmp .ge 41, 3) := by decide +kernel
theorem dX11_far_41 : decode cX11_far 41 = .ok (.aload_n 0, 1) := by decide +kernel
theorem dX11_far_42 : decode cX11_far 42 = .ok (.getfield 12, 3) := by decide +kernel
theorem dX11_far_45 : decode cX11_far 45 = .ok (.aload_n 0, 1) := by decide +kernel
theorem dX11_far_46 : decode cX11_far 46 = .ok (.getfield 45, 3) := by decide +kernel
theorem dX11_far_49 : decode cX11_far 49 = .ok (.iload_n 2, 1) := by decide +kernel
theorem dX11_far_50 : decode cX11_far 50 = .ok (.iaload, 1) := by decide +kernel
theorem dX11_far_51 : decode cX11_far 51 = .ok (.invokevirtual 82, 3) := by decide +kernel
theorem dX11_far_54 : decode cX11_far 54 = .ok (.aload_n 0, 1) := by decide +kernel
theorem dX11_far_55 : decode cX11_far 55 = .ok (.getfield 12, 3) := by decide +kernel
theorem dX11_far_58 : decode cX11_far 58 = .ok (.aload_n 0, 1) := by decide +kernel
theorem dX11_far_59 : decode cX11_far 59 = .ok (.getfield 45, 3) := by decide +kernel
theorem dX11_far_62 : decode cX11_far 62 = .ok (.iload_n 3, 1) := by decide +kernel
theorem dX11_far_63 : decode cX11_far 63 = .ok (.iaload, 1) := by decide +kernel
theorem dX11_far_64 : decode cX11_far 64 = .ok (.invokevirtual 82, 3) := by decide +kernel
theorem dX11_far_67 : decode cX11_far 67 = .ok (.if_icmp .le 6, 3) := by decide +kernel
theorem dX11_far_70 : decode cX11_far 70 = .ok (.iinc 1 1, 3) := by decide +kernel
theorem dX11_far_73 : decode cX11_far 73 = .ok (.iinc 3 1, 3) := by decide +kernel
theorem dX11_far_76 : decode cX11_far 76 = .ok (.goto (-46), 3) := by decide +kernel
theorem dX11_far_79 : decode cX11_far 79 = .ok (.iinc 2 1, 3) := by decide +kernel
theorem dX11_far_82 : decode cX11_far 82 = .ok (.goto (-67), 3) := by decide +kernel
theorem dX11_far_85 : decode cX11_far 85 = .ok (.iload_n 1, 1) := by decide +kernel
theorem dX11_far_86 : decode cX11_far 86 = .ok (.ireturn, 1) := by decide +kernel
theorem dX11_feed_0 : decode cX11_feed 0 = .ok (.iload_n 3, 1) := by decide +kernel
theorem dX11_feed_1 : decode cX11_feed 1 = .ok (.iconst 1, 1) := by decide +kernel
theorem dX11_feed_2 : decode cX11_feed 2 = .ok (.if_icmp .lt 9, 3) := by decide +kernel
theorem dX11_feed_5 : decode cX11_feed 5 = .ok (.iload_n 3, 1) := by decide +kernel
theorem dX11_feed_6 : decode cX11_feed 6 = .ok (.bipush 8, 2) := by decide +kernel
theorem dX11_feed_8 : decode cX11_feed 8 = .ok (.if_icmp .le 6, 3) := by decide +kernel
theorem dX11_feed_11 : decode cX11_feed 11 = .ok (.bipush (-2), 2) := by decide +kernel
theorem dX11_feed_13 : decode cX11_feed 13 = .ok (.ireturn, 1) := by decide +kernel
theorem dX11_feed_14 : decode cX11_feed 14 = .ok (.aload_n 0, 1) := by decide +kernel
theorem dX11_feed_15 : decode cX11_feed 15 = .ok (.getfield 12, 3) := by decide +kernel
theorem dX11_feed_18 : decode cX11_feed 18 = .ok (.getfield 90, 3) := by decide +kernel
theorem dX11_feed_21 : decode cX11_feed 21 = .ok (.iload_n 3, 1) := by decide +kernel
theorem dX11_feed_22 : decode cX11_feed 22 = .ok (.iadd, 1) := by decide +kernel
theorem dX11_feed_23 : decode cX11_feed 23 = .ok (.bipush 120, 2) := by decide +kernel
theorem dX11_feed_25 : decode cX11_feed 25 = .ok (.if_icmp .le 6, 3) := by decide +kernel
theorem dX11_feed_28 : decode cX11_feed 28 = .ok (.bipush (-4), 2) := by decide +kernel
theorem dX11_feed_30 : decode cX11_feed 30 = .ok (.ireturn, 1) := by decide +kernel
theorem dX11_feed_31 : decode cX11_feed 31 = .ok (.iload_n 3, 1) := by decide +kernel
theorem dX11_feed_32 : decode cX11_feed 32 = .ok (.iconst 1, 1) := by decide +kernel
theorem dX11_feed_33 : decode cX11_feed 33 = .ok (.isub, 1) := by decide +kernel
theorem dX11_feed_34 : decode cX11_feed 34 = .ok (.istore 4, 2) := by decide +kernel
theorem dX11_feed_36 : decode cX11_feed 36 = .ok (.iload 4, 2) := by decide +kernel
theorem dX11_feed_38 : decode cX11_feed 38 = .ok (.ifCond .lt 46, 3) := by decide +kernel
theorem dX11_feed_41 : decode cX11_feed 41 = .ok (.aload_n 0, 1) := by decide +kernel
theorem dX11_feed_42 : decode cX11_feed 42 = .ok (.getfield 12, 3) := by decide +kernel
theorem dX11_feed_45 : decode cX11_feed 45 = .ok (.getfield 93, 3) := by decide +kernel
theorem dX11_feed_48 : decode cX11_feed 48 = .ok (.aload_n 0, 1) := by decide +kernel
theorem dX11_feed_49 : decode cX11_feed 49 = .ok (.getfield 12, 3) := by decide +kernel
theorem dX11_feed_52 : decode cX11_feed 52 = .ok (.getfield 90, 3) := by decide +kernel
theorem dX11_feed_55 : decode cX11_feed 55 = .ok (.lload_n 1, 1) := by decide +kernel
theorem dX11_feed_56 : decode cX11_feed 56 = .ok (.bipush 8, 2) := by decide +kernel
theorem dX11_feed_58 : decode cX11_feed 58 = .ok (.iload 4, 2) := by decide +kernel
theorem dX11_feed_60 : decode cX11_feed 60 = .ok (.imul, 1) := by decide +kernel
theorem dX11_feed_61 : decode cX11_feed 61 = .ok (.lshr, 1) := by decide +kernel
theorem dX11_feed_62 : decode cX11_feed 62 = .ok (.l2i, 1) := by decide +kernel
theorem dX11_feed_63 : decode cX11_feed 63 = .ok (.i2b, 1) := by decide +kernel
theorem dX11_feed_64 : decode cX11_feed 64 = .ok (.bastore, 1) := by decide +kernel
theorem dX11_feed_65 : decode cX11_feed 65 = .ok (.aload_n 0, 1) := by decide +kernel
theorem dX11_feed_66 : decode cX11_feed 66 = .ok (.getfield 12, 3) := by decide +kernel
theorem dX11_feed_69 : decode cX11_feed 69 = .ok (.dup, 1) := by decide +kernel
theorem dX11_feed_70 : decode cX11_feed 70 = .ok (.getfield 90, 3) := by decide +kernel
theorem dX11_feed_73 : decode cX11_feed 73 = .ok (.iconst 1, 1) := by decide +kernel
theorem dX11_feed_74 : decode cX11_feed 74 = .ok (.iadd, 1) := by decide +kernel
theorem dX11_feed_75 : decode cX11_feed 75 = .ok (.putfield 90, 3) := by decide +kernel
theorem dX11_feed_78 : decode cX11_feed 78 = .ok (.iinc 4 (-1), 3) := by decide +kernel
theorem dX11_feed_81 : decode cX11_feed 81 = .ok (.goto (-45), 3) := by decide +kernel
theorem dX11_feed_84 : decode cX11_feed 84 = .ok (.aload_n 0, 1) := by decide +kernel
theorem dX11_feed_85 : decode cX11_feed 85 = .ok (.getfield 12, 3) := by decide +kernel
theorem dX11_feed_88 : decode cX11_feed 88 = .ok (.getfield 90, 3) := by decide +kernel
theorem dX11_feed_91 : decode cX11_feed 91 = .ok (.ireturn, 1) := by decide +kernel
theorem dX11_club_0 : decode cX11_club 0 = .ok (.aload_n 0, 1) := by decide +kernel
theorem dX11_club_1 : decode cX11_club 1 = .ok (.getfield 12, 3) := by decide +kernel
theorem dX11_club_4 : decode cX11_club 4 = .ok (.getfield 97, 3) := by decide +kernel
theorem dX11_club_7 : decode cX11_club 7 = .ok (.iconst 5, 1) := by decide +kernel
theorem dX11_club_8 : decode cX11_club 8 = .ok (.if_icmp .lt 6, 3) := by decide +kernel
theorem dX11_club_11 : decode cX11_club 11 = .ok (.bipush (-4), 2) := by decide +kernel
theorem dX11_club_13 : decode cX11_club 13 = .ok (.ireturn, 1) := by decide +kernel
theorem dX11_club_14 : decode cX11_club 14 = .ok (.aload_n 0, 1) := by decide +kernel
theorem dX11_club_15 : decode cX11_club 15 = .ok (.getfield 32, 3) := by decide +kernel
theorem dX11_club_18 : decode cX11_club 18 = .ok (.aload_n 0, 1) := by decide +kernel
theorem dX11_club_19 : decode cX11_club 19 = .ok (.getfield 12, 3) := by decide +kernel
theorem dX11_club_22 : decode cX11_club 22 = .ok (.getfield 93, 3) := by decide +kernel
theorem dX11_club_25 : decode cX11_club 25 = .ok (.aload_n 0, 1) := by decide +kernel
theorem dX11_club_26 : decode cX11_club 26 = .ok (.getfield 12, 3) := by decide +kernel
theorem dX11_club_29 : decode cX11_club 29 = .ok (.getfield 90, 3) := by decide +kernel
theorem dX11_club_32 : decode cX11_club 32 = .ok (.invokevirtual 100, 3) := by decide +kernel
theorem dX11_club_35 : decode cX11_club 35 = .ok (.astore_n 1, 1) := by decide +kernel
theorem dX11_club_36 : decode cX11_club 36 = .ok (.aload_n 0, 1) := by decide +kernel
theorem dX11_club_37 : decode cX11_club 37 = .ok (.getfield 12, 3) := by decide +kernel
theorem dX11_club_40 : decode cX11_club 40 = .ok (.iconst 0, 1) := by decide +kernel
theorem dX11_club_41 : decode cX11_club 41 = .ok (.putfield 90, 3) := by decide +kernel
theorem dX11_club_44 : decode cX11_club 44 = .ok (.aload_n 1, 1) := by decide +kernel
theorem dX11_club_45 : decode cX11_club 45 = .ok (.ifnonnull 14, 3) := by decide +kernel
theorem dX11_club_48 : decode cX11_club 48 = .ok (.bipush (-10), 2) := by decide +kernel
theorem dX11_club_50 : decode cX11_club 50 = .ok (.aload_n 0, 1) := by decide +kernel
theorem dX11_club_51 : decode cX11_club 51 = .ok (.getfield 32, 3) := by decide +kernel
theorem dX11_club_54 : decode cX11_club 54 = .ok (.invokevirtual 104, 3) := by decide +kernel
theorem dX11_club_57 : decode cX11_club 57 = .ok (.isub, 1) := by decide +kernel
theorem dX11_club_58 : decode cX11_club 58 = .ok (.ireturn, 1) := by decide +kernel
theorem dX11_club_59 : decode cX11_club 59 = .ok (.aload_n 0, 1) := by decide +kernel
theorem dX11_club_60 : decode cX11_club 60 = .ok (.getfield 12, 3) := by decide +kernel
theorem dX11_club_63 : decode cX11_club 63 = .ok (.getfield 108, 3) := by decide +kernel
theorem dX11_club_66 : decode cX11_club 66 = .ok (.aload_n 0, 1) := by decide +kernel
theorem dX11_club_67 : decode cX11_club 67 = .ok (.getfield 12, 3) := by decide +kernel
theorem dX11_club_70 : decode cX11_club 70 = .ok (.getfield 97, 3) := by decide +kernel
theorem dX11_club_73 : decode cX11_club 73 = .ok (.aload_n 1, 1) := by decide +kernel
theorem dX11_club_74 : decode cX11_club 74 = .ok (.aastore, 1) := by decide +kernel
theorem dX11_club_75 : decode cX11_club 75 = .ok (.aload_n 0, 1) := by decide +kernel
theorem dX11_club_76 : decode cX11_club 76 = .ok (.getfield 12, 3) := by decide +kernel
theorem dX11_club_79 : decode cX11_club 79 = .ok (.dup, 1) := by decide +kernel
theorem dX11_club_80 : decode cX11_club 80 = .ok (.getfield 97, 3) := by decide +kernel
theorem dX11_club_83 : decode cX11_club 83 = .ok (.iconst 1, 1) := by decide +kernel
theorem dX11_club_84 : decode cX11_club 84 = .ok (.iadd, 1) := by decide +kernel
theorem dX11_club_85 : decode cX11_club 85 = .ok (.putfield 97, 3) := by decide +kernel
theorem dX11_club_88 : decode cX11_club 88 = .ok (.aload_n 0, 1) := by decide +kernel
theorem dX11_club_89 : decode cX11_club 89 = .ok (.getfield 12, 3) := by decide +kernel
theorem dX11_club_92 : decode cX11_club 92 = .ok (.getfield 97, 3) := by decide +kernel
theorem dX11_club_95 : decode cX11_club 95 = .ok (.iconst 1, 1) := by decide +kernel
theorem dX11_club_96 : decode cX11_club 96 = .ok (.isub, 1) := by decide +kernel
theorem dX11_club_97 : decode cX11_club 97 = .ok (.ireturn, 1) := by decide +kernel
theorem dX11_may_0 : decode cX11_may 0 = .ok (.aload_n 0, 1) := by decide +kernel
theorem dX11_may_1 : decode cX11_may 1 = .ok (.iload_n 1, 1) := by decide +kernel
theorem dX11_may_2 : decode cX11_may 2 = .ok (.invokevirtual 112, 3) := by decide +kernel
theorem dX11_may_5 : decode cX11_may 5 = .ok (.astore 4, 2) := by decide +kernel
theorem dX11_may_7 : decode cX11_may 7 = .ok (.aload 4, 2) := by decide +kernel
theorem dX11_may_9 : decode cX11_may 9 = .ok (.ifnull 11, 3) := by decide +kernel
theorem dX11_may_12 : decode cX11_may 12 = .ok (.aload_n 0, 1) := by decide +kernel
theorem dX11_may_13 : decode cX11_may 13 = .ok (.iload_n 2, 1) := by decide +kernel
theorem dX11_may_14 : decode cX11_may 14 = .ok (.invokevirtual 64, 3) := by decide +kernel
theorem dX11_may_17 : decode cX11_may 17 = .ok (.ifCond .ne 5, 3) := by decide +kernel
theorem dX11_may_20 : decode cX11_may 20 = .ok (.iconst (-1), 1) := by decide +kernel
theorem dX11_may_21 : decode cX11_may 21 = .ok (.ireturn, 1) := by decide +kernel
theorem dX11_may_22 : decode cX11_may 22 = .ok (.iload_n 3, 1) := by decide +kernel
theorem dX11_may_23 : decode cX11_may 23 = .ok (.invokestatic 116, 3) := by decide +kernel
theorem dX11_may_26 : decode cX11_may 26 = .ok (.ifCond .eq 31, 3) := by decide +kernel
theorem dX11_may_29 : decode cX11_may 29 = .ok (.aload_n 0, 1) := by decide +kernel
theorem dX11_may_30 : decode cX11_may 30 = .ok (.getfield 12, 3) := by decide +kernel
theorem dX11_may_33 : decode cX11_may 33 = .ok (.aload 4, 2) := by decide +kernel
theorem dX11_may_35 : decode cX11_may 35 = .ok (.aload_n 0, 1) := by decide +kernel
theorem dX11_may_36 : decode cX11_may 36 = .ok (.getfield 12, 3) := by decide +kernel
theorem dX11_may_39 : decode cX11_may 39 = .ok (.getfield 61, 3) := by decide +kernel
theorem dX11_may_42 : decode cX11_may 42 = .ok (.aload_n 0, 1) := by decide +kernel
theorem dX11_may_43 : decode cX11_may 43 = .ok (.getfield 12, 3) := by decide +kernel
theorem dX11_may_46 : decode cX11_may 46 = .ok (.iload_n 2, 1) := by decide +kernel
theorem dX11_may_47 : decode cX11_may 47 = .ok (.invokevirtual 82, 3) := by decide +kernel
theorem dX11_may_50 : decode cX11_may 50 = .ok (.iload_n 3, 1) := by decide +kernel
theorem dX11_may_51 : decode cX11_may 51 = .ok (.invokevirtual 119, 3) := by decide +kernel
theorem dX11_may_54 : decode cX11_may 54 = .ok (.goto 5, 3) := by decide +kernel
theorem dX11_may_57 : decode cX11_may 57 = .ok (.bipush (-2), 2) := by decide +kernel
theorem dX11_may_59 : decode cX11_may 59 = .ok (.ireturn, 1) := by decide +kernel
theorem dX11_asker_0 : decode cX11_asker 0 = .ok (.aload_n 0, 1) := by decide +kernel
theorem dX11_asker_1 : decode cX11_asker 1 = .ok (.iload_n 1, 1) := by decide +kernel
theorem dX11_asker_2 : decode cX11_asker 2 = .ok (.invokevirtual 64, 3) := by decide +kernel
theorem dX11_asker_5 : decode cX11_asker 5 = .ok (.ifCond .eq 10, 3) := by decide +kernel
theorem dX11_asker_8 : decode cX11_asker 8 = .ok (.iload_n 2, 1) := by decide +kernel
theorem dX11_asker_9 : decode cX11_asker 9 = .ok (.invokestatic 123, 3) := by decide +kernel
theorem dX11_asker_12 : decode cX11_asker 12 = .ok (.ifCond .ne 5, 3) := by decide +kernel
theorem dX11_asker_15 : decode cX11_asker 15 = .ok (.iconst (-1), 1) := by decide +kernel
theorem dX11_asker_16 : decode cX11_asker 16 = .ok (.ireturn, 1) := by decide +kernel
theorem dX11_asker_17 : decode cX11_asker 17 = .ok (.iload_n 3, 1) := by decide +kernel
theorem dX11_asker_18 : decode cX11_asker 18 = .ok (.ifCond .lt 9, 3) := by decide +kernel
theorem dX11_asker_21 : decode cX11_asker 21 = .ok (.iload_n 3, 1) := by decide +kernel
theorem dX11_asker_22 : decode cX11_asker 22 = .ok (.bipush 100, 2) := by decide +kernel
theorem dX11_asker_24 : decode cX11_asker 24 = .ok (.if_icmp .le 6, 3) := by decide +kernel
theorem dX11_asker_27 : decode cX11_asker 27 = .ok (.bipush (-2), 2) := by decide +kernel
theorem dX11_asker_29 : decode cX11_asker 29 = .ok (.ireturn, 1) := by decide +kernel
theorem dX11_asker_30 : decode cX11_asker 30 = .ok (.aload_n 0, 1) := by decide +kernel
theorem dX11_asker_31 : decode cX11_asker 31 = .ok (.getfield 12, 3) := by decide +kernel
theorem dX11_asker_34 : decode cX11_asker 34 = .ok (.getfield 126, 3) := by decide +kernel
theorem dX11_asker_37 : decode cX11_asker 37 = .ok (.iload_n 1, 1) := by decide +kernel
theorem dX11_asker_38 : decode cX11_asker 38 = .ok (.aaload, 1) := by decide +kernel
theorem dX11_asker_39 : decode cX11_asker 39 = .ok (.invokevirtual 130, 3) := by decide +kernel
theorem dX11_asker_42 : decode cX11_asker 42 = .ok (.istore 4, 2) := by decide +kernel
theorem dX11_asker_44 : decode cX11_asker 44 = .ok (.aload_n 0, 1) := by decide +kernel
theorem dX11_asker_45 : decode cX11_asker 45 = .ok (.getfield 12, 3) := by decide +kernel
theorem dX11_asker_48 : decode cX11_asker 48 = .ok (.getfield 126, 3) := by decide +kernel
theorem dX11_asker_51 : decode cX11_asker 51 = .ok (.iload_n 1, 1) := by decide +kernel
theorem dX11_asker_52 : decode cX11_asker 52 = .ok (.iload_n 2, 1) := by decide +kernel
theorem dX11_asker_53 : decode cX11_asker 53 = .ok (.iload_n 1, 1) := by decide +kernel
theorem dX11_asker_54 : decode cX11_asker 54 = .ok (.iload_n 3, 1) := by decide +kernel
theorem dX11_asker_55 : decode cX11_asker 55 = .ok (.invokestatic 135, 3) := by decide +kernel
theorem dX11_asker_58 : decode cX11_asker 58 = .ok (.aastore, 1) := by decide +kernel
theorem dX11_asker_59 : decode cX11_asker 59 = .ok (.iload 4, 2) := by decide +kernel
theorem dX11_asker_61 : decode cX11_asker 61 = .ok (.ireturn, 1) := by decide +kernel
theorem dX11_asks_0 : decode cX11_asks 0 = .ok (.aload_n 0, 1) := by decide +kernel
theorem dX11_asks_1 : decode cX11_asks 1 = .ok (.iload_n 1, 1) := by decide +kernel
theorem dX11_asks_2 : decode cX11_asks 2 = .ok (.invokevirtual 112, 3) := by decide +kernel
theorem dX11_asks_5 : decode cX11_asks 5 = .ok (.astore 4, 2) := by decide +kernel
theorem dX11_asks_7 : decode cX11_asks 7 = .ok (.aload 4, 2) := by decide +kernel
theorem dX11_asks_9 : decode cX11_asks 9 = .ok (.ifnull 11, 3) := by decide +kernel
theorem dX11_asks_12 : decode cX11_asks 12 = .ok (.aload_n 0, 1) := by decide +kernel
theorem dX11_asks_13 : decode cX11_asks 13 = .ok (.iload_n 2, 1) := by decide +kernel
theorem dX11_asks_14 : decode cX11_asks 14 = .ok (.invokevirtual 64, 3) := by decide +kernel
theorem dX11_asks_17 : decode cX11_asks 17 = .ok (.ifCond .ne 5, 3) := by decide +kernel
theorem dX11_asks_20 : decode cX11_asks 20 = .ok (.iconst (-1), 1) := by decide +kernel
theorem dX11_asks_21 : decode cX11_asks 21 = .ok (.ireturn, 1) := by decide +kernel
theorem dX11_asks_22 : decode cX11_asks 22 = .ok (.iload_n 3, 1) := by decide +kernel
theorem dX11_asks_23 : decode cX11_asks 23 = .ok (.invokestatic 116, 3) := by decide +kernel
theorem dX11_asks_26 : decode cX11_asks 26 = .ok (.ifCond .eq 14, 3) := by decide +kernel
theorem dX11_asks_29 : decode cX11_asks 29 = .ok (.aload_n 0, 1) := by decide +kernel
theorem dX11_asks_30 : decode cX11_asks 30 = .ok (.aload 4, 2) := by decide +kernel
theorem dX11_asks_32 : decode cX11_asks 32 = .ok (.iload_n 2, 1) := by decide +kernel
theorem dX11_asks_33 : decode cX11_asks 33 = .ok (.iload_n 3, 1) := by decide +kernel
theorem dX11_asks_34 : decode cX11_asks 34 = .ok (.invokevirtual 139, 3) := by decide +kernel
theorem dX11_asks_37 : decode cX11_asks 37 = .ok (.goto 5, 3) := by decide +kernel
theorem dX11_asks_40 : decode cX11_asks 40 = .ok (.bipush (-2), 2) := by decide +kernel
theorem dX11_asks_42 : decode cX11_asks 42 = .ok (.ireturn, 1) := by decide +kernel
theorem dX11_match_0 : decode cX11_match 0 = .ok (.aload_n 0, 1) := by decide +kernel
theorem dX11_match_1 : decode cX11_match 1 = .ok (.iload_n 1, 1) := by decide +kernel
theorem dX11_match_2 : decode cX11_match 2 = .ok (.invokevirtual 112, 3) := by decide +kernel
theorem dX11_match_5 : decode cX11_match 5 = .ok (.astore 5, 2) := by decide +kernel
theorem dX11_match_7 : decode cX11_match 7 = .ok (.aload 5, 2) := by decide +kernel
theorem dX11_match_9 : decode cX11_match 9 = .ok (.ifnull 19, 3) := by decide +kernel
theorem dX11_match_12 : decode cX11_match 12 = .ok (.aload_n 0, 1) := by decide +kernel
theorem dX11_match_13 : decode cX11_match 13 = .ok (.iload_n 2, 1) := by decide +kernel
theorem dX11_match_14 : decode cX11_match 14 = .ok (.invokevirtual 64, 3) := by decide +kernel
theorem dX11_match_17 : decode cX11_match 17 = .ok (.ifCond .eq 11, 3) := by decide +kernel
theorem dX11_match_20 : decode cX11_match 20 = .ok (.aload_n 0, 1) := by decide +kernel
theorem dX11_match_21 : decode cX11_match 21 = .ok (.iload_n 3, 1) := by decide +kernel
theorem dX11_match_22 : decode cX11_match 22 = .ok (.invokevirtual 64, 3) := by decide +kernel
theorem dX11_match_25 : decode cX11_match 25 = .ok (.ifCond .ne 5, 3) := by decide +kernel
theorem dX11_match_28 : decode cX11_match 28 = .ok (.iconst (-1), 1) := by decide +kernel
theorem dX11_match_29 : decode cX11_match 29 = .ok (.ireturn, 1) := by decide +kernel
theorem dX11_match_30 : decode cX11_match 30 = .ok (.iload_n 2, 1) := by decide +kernel
theorem dX11_match_31 : decode cX11_match 31 = .ok (.iload_n 3, 1) := by decide +kernel
theorem dX11_match_32 : decode cX11_match 32 = .ok (.if_icmp .ne 6, 3) := by decide +kernel
theorem dX11_match_35 : decode cX11_match 35 = .ok (.bipush (-2), 2) := by decide +kernel
theorem dX11_match_37 : decode cX11_match 37 = .ok (.ireturn, 1) := by decide +kernel
theorem dX11_match_38 : decode cX11_match 38 = .ok (.aload_n 0, 1) := by decide +kernel
theorem dX11_match_39 : decode cX11_match 39 = .ok (.getfield 12, 3) := by decide +kernel
theorem dX11_match_42 : decode cX11_match 42 = .ok (.iload_n 2, 1) := by decide +kernel
theorem dX11_match_43 : decode cX11_match 43 = .ok (.invokevirtual 82, 3) := by decide +kernel
theorem dX11_match_46 : decode cX11_match 46 = .ok (.istore 6, 2) := by decide +kernel
theorem dX11_match_48 : decode cX11_match 48 = .ok (.aload_n 0, 1) := by decide +kernel
theorem dX11_match_49 : decode cX11_match 49 = .ok (.getfield 12, 3) := by decide +kernel
theorem dX11_match_52 : decode cX11_match 52 = .ok (.aload 5, 2) := by decide +kernel
theorem dX11_match_54 : decode cX11_match 54 = .ok (.aload_n 0, 1) := by decide +kernel
theorem dX11_match_55 : decode cX11_match 55 = .ok (.getfield 12, 3) := by decide +kernel
theorem dX11_match_58 : decode cX11_match 58 = .ok (.getfield 61, 3) := by decide +kernel
theorem dX11_match_61 : decode cX11_match 61 = .ok (.iload 6, 2) := by decide +kernel
theorem dX11_match_63 : decode cX11_match 63 = .ok (.aload_n 0, 1) := by decide +kernel
theorem dX11_match_64 : decode cX11_match 64 = .ok (.getfield 12, 3) := by decide +kernel
theorem dX11_match_67 : decode cX11_match 67 = .ok (.getfield 143, 3) := by decide +kernel
theorem dX11_match_70 : decode cX11_match 70 = .ok (.invokevirtual 119, 3) := by decide +kernel
theorem dX11_match_73 : decode cX11_match 73 = .ok (.iload_n 3, 1) := by decide +kernel
theorem dX11_match_74 : decode cX11_match 74 = .ok (.invokestatic 146, 3) := by decide +kernel
theorem dX11_match_77 : decode cX11_match 77 = .ok (.ifCond .ne 6, 3) := by decide +kernel
theorem dX11_match_80 : decode cX11_match 80 = .ok (.bipush (-3), 2) := by decide +kernel
theorem dX11_match_82 : decode cX11_match 82 = .ok (.ireturn, 1) := by decide +kernel
theorem dX11_match_83 : decode cX11_match 83 = .ok (.iload 4, 2) := by decide +kernel
theorem dX11_match_85 : decode cX11_match 85 = .ok (.ifCond .eq 25, 3) := by decide +kernel
theorem dX11_match_88 : decode cX11_match 88 = .ok (.aload 5, 2) := by decide +kernel
theorem dX11_match_90 : decode cX11_match 90 = .ok (.aload_n 0, 1) := by decide +kernel
theorem dX11_match_91 : decode cX11_match 91 = .ok (.getfield 12, 3) := by decide +kernel
theorem dX11_match_94 : decode cX11_match 94 = .ok (.getfield 61, 3) := by decide +kernel
theorem dX11_match_97 : decode cX11_match 97 = .ok (.iload 6, 2) := by decide +kernel
theorem dX11_match_99 : decode cX11_match 99 = .ok (.aload_n 0, 1) := by decide +kernel
theorem dX11_match_100 : decode cX11_match 100 = .ok (.getfield 12, 3) := by decide +kernel
theorem dX11_match_103 : decode cX11_match 103 = .ok (.iload_n 3, 1) := by decide +kernel
theorem dX11_match_104 : decode cX11_match 104 = .ok (.invokevirtual 82, 3) := by decide +kernel
theorem dX11_match_107 : decode cX11_match 107 = .ok (.invokevirtual 150, 3) := by decide +kernel
theorem dX11_match_110 : decode cX11_match 110 = .ok (.aload_n 0, 1) := by decide +kernel
theorem dX11_match_111 : decode cX11_match 111 = .ok (.getfield 12, 3) := by decide +kernel
theorem dX11_match_114 : decode cX11_match 114 = .ok (.iload_n 2, 1) := by decide +kernel
theorem dX11_match_115 : decode cX11_match 115 = .ok (.invokevirtual 82, 3) := by decide +kernel
theorem dX11_match_118 : decode cX11_match 118 = .ok (.ireturn, 1) := by decide +kernel
theorem dX11_pass_0 : decode cX11_pass 0 = .ok (.iload_n 1, 1) := by decide +kernel
theorem dX11_pass_1 : decode cX11_pass 1 = .ok (.iconst 1, 1) := by decide +kernel
theorem dX11_pass_2 : decode cX11_pass 2 = .ok (.if_icmp .lt 24, 3) := by decide +kernel
theorem dX11_pass_5 : decode cX11_pass 5 = .ok (.iload_n 1, 1) := by decide +kernel
theorem dX11_pass_6 : decode cX11_pass 6 = .ok (.bipush 99, 2) := by decide +kernel
theorem dX11_pass_8 : decode cX11_pass 8 = .ok (.if_icmp .gt 18, 3) := by decide +kernel
theorem dX11_pass_11 : decode cX11_pass 11 = .ok (.aload_n 0, 1) := by decide +kernel
theorem dX11_pass_12 : decode cX11_pass 12 = .ok (.getfield 12, 3) := by decide +kernel
theorem dX11_pass_15 : decode cX11_pass 15 = .ok (.getfield 143, 3) := by decide +kernel
theorem dX11_pass_18 : decode cX11_pass 18 = .ok (.iload_n 1, 1) := by decide +kernel
theorem dX11_pass_19 : decode cX11_pass 19 = .ok (.iadd, 1) := by decide +kernel
theorem dX11_pass_20 : decode cX11_pass 20 = .ok (.sipush 999, 3) := by decide +kernel
theorem dX11_pass_23 : decode cX11_pass 23 = .ok (.if_icmp .le 6, 3) := by decide +kernel
theorem dX11_pass_26 : decode cX11_pass 26 = .ok (.bipush (-2), 2) := by decide +kernel
theorem dX11_pass_28 : decode cX11_pass 28 = .ok (.ireturn, 1) := by decide +kernel
theorem dX11_pass_29 : decode cX11_pass 29 = .ok (.aload_n 0, 1) := by decide +kernel
theorem dX11_pass_30 : decode cX11_pass 30 = .ok (.getfield 12, 3) := by decide +kernel
theorem dX11_pass_33 : decode cX11_pass 33 = .ok (.dup, 1) := by decide +kernel
theorem dX11_pass_34 : decode cX11_pass 34 = .ok (.getfield 143, 3) := by decide +kernel
theorem dX11_pass_37 : decode cX11_pass 37 = .ok (.iload_n 1, 1) := by decide +kernel
theorem dX11_pass_38 : decode cX11_pass 38 = .ok (.iadd, 1) := by decide +kernel
theorem dX11_pass_39 : decode cX11_pass 39 = .ok (.putfield 143, 3) := by decide +kernel
theorem dX11_pass_42 : decode cX11_pass 42 = .ok (.aload_n 0, 1) := by decide +kernel
theorem dX11_pass_43 : decode cX11_pass 43 = .ok (.getfield 12, 3) := by decide +kernel
theorem dX11_pass_46 : decode cX11_pass 46 = .ok (.getfield 143, 3) := by decide +kernel
theorem dX11_pass_49 : decode cX11_pass 49 = .ok (.ireturn, 1) := by decide +kernel
theorem dX11_share_0 : decode cX11_share 0 = .ok (.aload_n 0, 1) := by decide +kernel
theorem dX11_share_1 : decode cX11_share 1 = .ok (.iload_n 1, 1) := by decide +kernel
theorem dX11_share_2 : decode cX11_share 2 = .ok (.invokevirtual 112, 3) := by decide +kernel
theorem dX11_share_5 : decode cX11_share 5 = .ok (.astore 6, 2) := by decide +kernel
theorem dX11_share_7 : decode cX11_share 7 = .ok (.aload 6, 2) := by decide +kernel
theorem dX11_share_9 : decode cX11_share 9 = .ok (.ifnull 35, 3) := by decide +kernel
theorem dX11_share_12 : decode cX11_share 12 = .ok (.iload_n 2, 1) := by decide +kernel
theorem dX11_share_13 : decode cX11_share 13 = .ok (.invokestatic 155, 3) := by decide +kernel
theorem dX11_share_16 : decode cX11_share 16 = .ok (.ifCond .eq 28, 3) := by decide +kernel
theorem dX11_share_19 : decode cX11_share 19 = .ok (.aload_n 0, 1) := by decide +kernel
theorem dX11_share_20 : decode cX11_share 20 = .ok (.iload_n 3, 1) := by decide +kernel
theorem dX11_share_21 : decode cX11_share 21 = .ok (.invokevirtual 64, 3) := by decide +kernel
theorem dX11_share_24 : decode cX11_share 24 = .ok (.ifCond .eq 20, 3) := by decide +kernel
theorem dX11_share_27 : decode cX11_share 27 = .ok (.aload_n 0, 1) := by decide +kernel
theorem dX11_share_28 : decode cX11_share 28 = .ok (.iload 4, 2) := by decide +kernel
theorem dX11_share_30 : decode cX11_share 30 = .ok (.invokevirtual 72, 3) := by decide +kernel
theorem dX11_share_33 : decode cX11_share 33 = .ok (.ifCond .eq 11, 3) := by decide +kernel
theorem dX11_share_36 : decode cX11_share 36 = .ok (.iload 5, 2) := by decide +kernel
theorem dX11_share_38 : decode cX11_share 38 = .ok (.invokestatic 75, 3) := by decide +kernel
theorem dX11_share_41 : decode cX11_share 41 = .ok (.ifCond .ne 7, 3) := by decide +kernel
theorem dX11_share_44 : decode cX11_share 44 = .ok (.ldc2_w 158, 3) := by decide +kernel
theorem dX11_share_47 : decode cX11_share 47 = .ok (.lreturn, 1) := by decide +kernel
theorem dX11_share_48 : decode cX11_share 48 = .ok (.aload_n 0, 1) := by decide +kernel
theorem dX11_share_49 : decode cX11_share 49 = .ok (.aload 6, 2) := by decide +kernel
theorem dX11_share_51 : decode cX11_share 51 = .ok (.iload_n 2, 1) := by decide +kernel
theorem dX11_share_52 : decode cX11_share 52 = .ok (.aload_n 0, 1) := by decide +kernel
theorem dX11_share_53 : decode cX11_share 53 = .ok (.getfield 12, 3) := by decide +kernel
theorem dX11_share_56 : decode cX11_share 56 = .ok (.getfield 61, 3) := by decide +kernel
theorem dX11_share_59 : decode cX11_share 59 = .ok (.iconst 0, 1) := by decide +kernel
theorem dX11_share_60 : decode cX11_share 60 = .ok (.invokevirtual 160, 3) := by decide +kernel
theorem dX11_share_63 : decode cX11_share 63 = .ok (.aload_n 0, 1) := by decide +kernel
theorem dX11_share_64 : decode cX11_share 64 = .ok (.getfield 41, 3) := by decide +kernel
theorem dX11_share_67 : decode cX11_share 67 = .ok (.iload_n 3, 1) := by decide +kernel
theorem dX11_share_68 : decode cX11_share 68 = .ok (.iload 4, 2) := by decide +kernel
theorem dX11_share_70 : decode cX11_share 70 = .ok (.invokevirtual 164, 3) := by decide +kernel
theorem dX11_share_73 : decode cX11_share 73 = .ok (.aload_n 0, 1) := by decide +kernel
theorem dX11_share_74 : decode cX11_share 74 = .ok (.getfield 41, 3) := by decide +kernel
theorem dX11_share_77 : decode cX11_share 77 = .ok (.invokevirtual 168, 3) := by decide +kernel
theorem dX11_share_80 : decode cX11_share 80 = .ok (.iload 5, 2) := by decide +kernel
theorem dX11_share_82 : decode cX11_share 82 = .ok (.invokestatic 172, 3) := by decide +kernel
theorem dX11_share_85 : decode cX11_share 85 = .ok (.lreturn, 1) := by decide +kernel
theorem dX11_truly_0 : decode cX11_truly 0 = .ok (.aload_n 0, 1) := by decide +kernel
theorem dX11_truly_1 : decode cX11_truly 1 = .ok (.iload_n 1, 1) := by decide +kernel
theorem dX11_truly_2 : decode cX11_truly 2 = .ok (.invokevirtual 112, 3) := by decide +kernel
theorem dX11_truly_5 : decode cX11_truly 5 = .ok (.astore 4, 2) := by decide +kernel
theorem dX11_truly_7 : decode cX11_truly 7 = .ok (.aload 4, 2) := by decide +kernel
theorem dX11_truly_9 : decode cX11_truly 9 = .ok (.ifnull 27, 3) := by decide +kernel
theorem dX11_truly_12 : decode cX11_truly 12 = .ok (.iload_n 2, 1) := by decide +kernel
theorem dX11_truly_13 : decode cX11_truly 13 = .ok (.invokestatic 155, 3) := by decide +kernel
theorem dX11_truly_16 : decode cX11_truly 16 = .ok (.ifCond .eq 20, 3) := by decide +kernel
theorem dX11_truly_19 : decode cX11_truly 19 = .ok (.iload_n 3, 1) := by decide +kernel
theorem dX11_truly_20 : decode cX11_truly 20 = .ok (.invokestatic 75, 3) := by decide +kernel
theorem dX11_truly_23 : decode cX11_truly 23 = .ok (.ifCond .eq 13, 3) := by decide +kernel
theorem dX11_truly_26 : decode cX11_truly 26 = .ok (.aload_n 0, 1) := by decide +kernel
theorem dX11_truly_27 : decode cX11_truly 27 = .ok (.getfield 12, 3) := by decide +kernel
theorem dX11_truly_30 : decode cX11_truly 30 = .ok (.getfield 57, 3) := by decide +kernel
theorem dX11_truly_33 : decode cX11_truly 33 = .ok (.ifCond .ne 7, 3) := by decide +kernel
theorem dX11_truly_36 : decode cX11_truly 36 = .ok (.ldc2_w 158, 3) := by decide +kernel
theorem dX11_truly_39 : decode cX11_truly 39 = .ok (.lreturn, 1) := by decide +kernel
theorem dX11_truly_40 : decode cX11_truly 40 = .ok (.aload_n 0, 1) := by decide +kernel
theorem dX11_truly_41 : decode cX11_truly 41 = .ok (.getfield 12, 3) := by decide +kernel
theorem dX11_truly_44 : decode cX11_truly 44 = .ok (.aload_n 0, 1) := by decide +kernel
theorem dX11_truly_45 : decode cX11_truly 45 = .ok (.getfield 45, 3) := by decide +kernel
theorem dX11_truly_48 : decode cX11_truly 48 = .ok (.invokevirtual 78, 3) := by decide +kernel
theorem dX11_truly_51 : decode cX11_truly 51 = .ok (.aload_n 0, 1) := by decide +kernel
theorem dX11_truly_52 : decode cX11_truly 52 = .ok (.aload 4, 2) := by decide +kernel
theorem dX11_truly_54 : decode cX11_truly 54 = .ok (.iload_n 2, 1) := by decide +kernel
theorem dX11_truly_55 : decode cX11_truly 55 = .ok (.aload_n 0, 1) := by decide +kernel
theorem dX11_truly_56 : decode cX11_truly 56 = .ok (.getfield 12, 3) := by decide +kernel
theorem dX11_truly_59 : decode cX11_truly 59 = .ok (.getfield 61, 3) := by decide +kernel
theorem dX11_truly_62 : decode cX11_truly 62 = .ok (.iconst 0, 1) := by decide +kernel
theorem dX11_truly_63 : decode cX11_truly 63 = .ok (.invokevirtual 160, 3) := by decide +kernel
theorem dX11_truly_66 : decode cX11_truly 66 = .ok (.aload_n 0, 1) := by decide +kernel
theorem dX11_truly_67 : decode cX11_truly 67 = .ok (.getfield 41, 3) := by decide +kernel
theorem dX11_truly_70 : decode cX11_truly 70 = .ok (.aload_n 0, 1) := by decide +kernel
theorem dX11_truly_71 : decode cX11_truly 71 = .ok (.getfield 45, 3) := by decide +kernel
theorem dX11_truly_74 : decode cX11_truly 74 = .ok (.invokevirtual 176, 3) := by decide +kernel
theorem dX11_truly_77 : decode cX11_truly 77 = .ok (.aload_n 0, 1) := by decide +kernel
theorem dX11_truly_78 : decode cX11_truly 78 = .ok (.getfield 41, 3) := by decide +kernel
theorem dX11_truly_81 : decode cX11_truly 81 = .ok (.invokevirtual 168, 3) := by decide +kernel
theorem dX11_truly_84 : decode cX11_truly 84 = .ok (.iload_n 3, 1) := by decide +kernel
theorem dX11_truly_85 : decode cX11_truly 85 = .ok (.invokestatic 172, 3) := by decide +kernel
theorem dX11_truly_88 : decode cX11_truly 88 = .ok (.lreturn, 1) := by decide +kernel
theorem dX11_likely_0 : decode cX11_likely 0 = .ok (.aload_n 0, 1) := by decide +kernel
theorem dX11_likely_1 : decode cX11_likely 1 = .ok (.iload_n 1, 1) := by decide +kernel
theorem dX11_likely_2 : decode cX11_likely 2 = .ok (.invokevirtual 112, 3) := by decide +kernel
theorem dX11_likely_5 : decode cX11_likely 5 = .ok (.astore 4, 2) := by decide +kernel
theorem dX11_likely_7 : decode cX11_likely 7 = .ok (.aload 4, 2) := by decide +kernel
theorem dX11_likely_9 : decode cX11_likely 9 = .ok (.ifnull 11, 3) := by decide +kernel
theorem dX11_likely_12 : decode cX11_likely 12 = .ok (.aload_n 0, 1) := by decide +kernel
theorem dX11_likely_13 : decode cX11_likely 13 = .ok (.iload_n 3, 1) := by decide +kernel
theorem dX11_likely_14 : decode cX11_likely 14 = .ok (.invokevirtual 72, 3) := by decide +kernel
theorem dX11_likely_17 : decode cX11_likely 17 = .ok (.ifCond .ne 5, 3) := by decide +kernel
theorem dX11_likely_20 : decode cX11_likely 20 = .ok (.iconst (-1), 1) := by decide +kernel
theorem dX11_likely_21 : decode cX11_likely 21 = .ok (.ireturn, 1) := by decide +kernel
theorem dX11_likely_22 : decode cX11_likely 22 = .ok (.iload_n 2, 1) := by decide +kernel
theorem dX11_likely_23 : decode cX11_likely 23 = .ok (.invokestatic 155, 3) := by decide +kernel
theorem dX11_likely_26 : decode cX11_likely 26 = .ok (.ifCond .ne 6, 3) := by decide +kernel
theorem dX11_likely_29 : decode cX11_likely 29 = .ok (.bipush (-2), 2) := by decide +kernel
theorem dX11_likely_31 : decode cX11_likely 31 = .ok (.ireturn, 1) := by decide +kernel
theorem dX11_likely_32 : decode cX11_likely 32 = .ok (.aload_n 0, 1) := by decide +kernel
theorem dX11_likely_33 : decode cX11_likely 33 = .ok (.aload 4, 2) := by decide +kernel
theorem dX11_likely_35 : decode cX11_likely 35 = .ok (.iload_n 2, 1) := by decide +kernel
theorem dX11_likely_36 : decode cX11_likely 36 = .ok (.aload_n 0, 1) := by decide +kernel
theorem dX11_likely_37 : decode cX11_likely 37 = .ok (.getfield 12, 3) := by decide +kernel
theorem dX11_likely_40 : decode cX11_likely 40 = .ok (.getfield 61, 3) := by decide +kernel
theorem dX11_likely_43 : decode cX11_likely 43 = .ok (.iconst 0, 1) := by decide +kernel
theorem dX11_likely_44 : decode cX11_likely 44 = .ok (.invokevirtual 160, 3) := by decide +kernel
theorem dX11_likely_47 : decode cX11_likely 47 = .ok (.aload_n 0, 1) := by decide +kernel
theorem dX11_likely_48 : decode cX11_likely 48 = .ok (.getfield 41, 3) := by decide +kernel
theorem dX11_likely_51 : decode cX11_likely 51 = .ok (.aload_n 0, 1) := by decide +kernel
theorem dX11_likely_52 : decode cX11_likely 52 = .ok (.getfield 48, 3) := by decide +kernel
theorem dX11_likely_55 : decode cX11_likely 55 = .ok (.invokevirtual 180, 3) := by decide +kernel
theorem dX11_likely_58 : decode cX11_likely 58 = .ok (.aload_n 0, 1) := by decide +kernel
theorem dX11_likely_59 : decode cX11_likely 59 = .ok (.getfield 48, 3) := by decide +kernel
theorem dX11_likely_62 : decode cX11_likely 62 = .ok (.iload_n 3, 1) := by decide +kernel
theorem dX11_likely_63 : decode cX11_likely 63 = .ok (.iaload, 1) := by decide +kernel
theorem dX11_likely_64 : decode cX11_likely 64 = .ok (.ireturn, 1) := by decide +kernel
theorem dX11_mean_0 : decode cX11_mean 0 = .ok (.aload_n 0, 1) := by decide +kernel
theorem dX11_mean_1 : decode cX11_mean 1 = .ok (.iload_n 1, 1) := by decide +kernel
theorem dX11_mean_2 : decode cX11_mean 2 = .ok (.invokevirtual 112, 3) := by decide +kernel
theorem dX11_mean_5 : decode cX11_mean 5 = .ok (.astore 5, 2) := by decide +kernel
theorem dX11_mean_7 : decode cX11_mean 7 = .ok (.aload 5, 2) := by decide +kernel
theorem dX11_mean_9 : decode cX11_mean 9 = .ok (.ifnull 26, 3) := by decide +kernel
theorem dX11_mean_12 : decode cX11_mean 12 = .ok (.iload_n 2, 1) := by decide +kernel
theorem dX11_mean_13 : decode cX11_mean 13 = .ok (.invokestatic 155, 3) := by decide +kernel
theorem dX11_mean_16 : decode cX11_mean 16 = .ok (.ifCond .eq 19, 3) := by decide +kernel
theorem dX11_mean_19 : decode cX11_mean 19 = .ok (.aload_n 0, 1) := by decide +kernel
theorem dX11_mean_20 : decode cX11_mean 20 = .ok (.iload_n 3, 1) := by decide +kernel
theorem dX11_mean_21 : decode cX11_mean 21 = .ok (.invokevirtual 64, 3) := by decide +kernel
theorem dX11_mean_24 : decode cX11_mean 24 = .ok (.ifCond .eq 11, 3) := by decide +kernel
theorem dX11_mean_27 : decode cX11_mean 27 = .ok (.iload 4, 2) := by decide +kernel
theorem dX11_mean_29 : decode cX11_mean 29 = .ok (.invokestatic 75, 3) := by decide +kernel
theorem dX11_mean_32 : decode cX11_mean 32 = .ok (.ifCond .ne 7, 3) := by decide +kernel
theorem dX11_mean_35 : decode cX11_mean 35 = .ok (.ldc2_w 158, 3) := by decide +kernel
theorem dX11_mean_38 : decode cX11_mean 38 = .ok (.lreturn, 1) := by decide +kernel
theorem dX11_mean_39 : decode cX11_mean 39 = .ok (.aload_n 0, 1) := by decide +kernel
theorem dX11_mean_40 : decode cX11_mean 40 = .ok (.aload 5, 2) := by decide +kernel
theorem dX11_mean_42 : decode cX11_mean 42 = .ok (.iload_n 2, 1) := by decide +kernel
theorem dX11_mean_43 : decode cX11_mean 43 = .ok (.aload_n 0, 1) := by decide +kernel
theorem dX11_mean_44 : decode cX11_mean 44 = .ok (.getfield 12, 3) := by decide +kernel
theorem dX11_mean_47 : decode cX11_mean 47 = .ok (.getfield 61, 3) := by decide +kernel
theorem dX11_mean_50 : decode cX11_mean 50 = .ok (.iconst 0, 1) := by decide +kernel
theorem dX11_mean_51 : decode cX11_mean 51 = .ok (.invokevirtual 160, 3) := by decide +kernel
theorem dX11_mean_54 : decode cX11_mean 54 = .ok (.aload_n 0, 1) := by decide +kernel
theorem dX11_mean_55 : decode cX11_mean 55 = .ok (.getfield 41, 3) := by decide +kernel
theorem dX11_mean_58 : decode cX11_mean 58 = .ok (.iload_n 3, 1) := by decide +kernel
theorem dX11_mean_59 : decode cX11_mean 59 = .ok (.invokevirtual 183, 3) := by decide +kernel
theorem dX11_mean_62 : decode cX11_mean 62 = .ok (.aload_n 0, 1) := by decide +kernel
theorem dX11_mean_63 : decode cX11_mean 63 = .ok (.getfield 41, 3) := by decide +kernel
theorem dX11_mean_66 : decode cX11_mean 66 = .ok (.invokevirtual 168, 3) := by decide +kernel
theorem dX11_mean_69 : decode cX11_mean 69 = .ok (.iload 4, 2) := by decide +kernel
theorem dX11_mean_71 : decode cX11_mean 71 = .ok (.invokestatic 172, 3) := by decide +kernel
theorem dX11_mean_74 : decode cX11_mean 74 = .ok (.lreturn, 1) := by decide +kernel
theorem dX11_stuck_0 : decode cX11_stuck 0 = .ok (.aload_n 0, 1) := by decide +kernel
theorem dX11_stuck_1 : decode cX11_stuck 1 = .ok (.iload_n 1, 1) := by decide +kernel
theorem dX11_stuck_2 : decode cX11_stuck 2 = .ok (.invokevirtual 112, 3) := by decide +kernel
theorem dX11_stuck_5 : decode cX11_stuck 5 = .ok (.astore_n 3, 1) := by decide +kernel
theorem dX11_stuck_6 : decode cX11_stuck 6 = .ok (.aload_n 3, 1) := by decide +kernel
theorem dX11_stuck_7 : decode cX11_stuck 7 = .ok (.ifnull 10, 3) := by decide +kernel
theorem dX11_stuck_10 : decode cX11_stuck 10 = .ok (.iload_n 2, 1) := by decide +kernel
theorem dX11_stuck_11 : decode cX11_stuck 11 = .ok (.invokestatic 75, 3) := by decide +kernel
theorem dX11_stuck_14 : decode cX11_stuck 14 = .ok (.ifCond .ne 5, 3) := by decide +kernel
theorem dX11_stuck_17 : decode cX11_stuck 17 = .ok (.iconst (-1), 1) := by decide +kernel
theorem dX11_stuck_18 : decode cX11_stuck 18 = .ok (.ireturn, 1) := by decide +kernel
theorem dX11_stuck_19 : decode cX11_stuck 19 = .ok (.iload_n 2, 1) := by decide +kernel
theorem dX11_stuck_20 : decode cX11_stuck 20 = .ok (.ifCond .ne 11, 3) := by decide +kernel
theorem dX11_stuck_23 : decode cX11_stuck 23 = .ok (.aload_n 0, 1) := by decide +kernel
theorem dX11_stuck_24 : decode cX11_stuck 24 = .ok (.aload_n 3, 1) := by decide +kernel
theorem dX11_stuck_25 : decode cX11_stuck 25 = .ok (.invokevirtual 187, 3) := by decide +kernel
theorem dX11_stuck_28 : decode cX11_stuck 28 = .ok (.goto 8, 3) := by decide +kernel
theorem dX11_stuck_31 : decode cX11_stuck 31 = .ok (.aload_n 0, 1) := by decide +kernel
theorem dX11_stuck_32 : decode cX11_stuck 32 = .ok (.aload_n 3, 1) := by decide +kernel
theorem dX11_stuck_33 : decode cX11_stuck 33 = .ok (.invokevirtual 191, 3) := by decide +kernel
theorem dX11_stuck_36 : decode cX11_stuck 36 = .ok (.ireturn, 1) := by decide +kernel
theorem dX11_ought_0 : decode cX11_ought 0 = .ok (.aload_n 0, 1) := by decide +kernel
theorem dX11_ought_1 : decode cX11_ought 1 = .ok (.iload_n 1, 1) := by decide +kernel
theorem dX11_ought_2 : decode cX11_ought 2 = .ok (.invokevirtual 112, 3) := by decide +kernel
theorem dX11_ought_5 : decode cX11_ought 5 = .ok (.astore 4, 2) := by decide +kernel
theorem dX11_ought_7 : decode cX11_ought 7 = .ok (.aload 4, 2) := by decide +kernel
theorem dX11_ought_9 : decode cX11_ought 9 = .ok (.ifnull 11, 3) := by decide +kernel
theorem dX11_ought_12 : decode cX11_ought 12 = .ok (.aload_n 0, 1) := by decide +kernel
theorem dX11_ought_13 : decode cX11_ought 13 = .ok (.iload_n 3, 1) := by decide +kernel
theorem dX11_ought_14 : decode cX11_ought 14 = .ok (.invokevirtual 64, 3) := by decide +kernel
theorem dX11_ought_17 : decode cX11_ought 17 = .ok (.ifCond .ne 5, 3) := by decide +kernel
theorem dX11_ought_20 : decode cX11_ought 20 = .ok (.iconst (-1), 1) := by decide +kernel
theorem dX11_ought_21 : decode cX11_ought 21 = .ok (.ireturn, 1) := by decide +kernel
theorem dX11_ought_22 : decode cX11_ought 22 = .ok (.iload_n 2, 1) := by decide +kernel
theorem dX11_ought_23 : decode cX11_ought 23 = .ok (.iconst 1, 1) := by decide +kernel
theorem dX11_ought_24 : decode cX11_ought 24 = .ok (.if_icmp .lt 9, 3) := by decide +kernel
theorem dX11_ought_27 : decode cX11_ought 27 = .ok (.iload_n 2, 1) := by decide +kernel
theorem dX11_ought_28 : decode cX11_ought 28 = .ok (.bipush 6, 2) := by decide +kernel
theorem dX11_ought_30 : decode cX11_ought 30 = .ok (.if_icmp .le 6, 3) := by decide +kernel
theorem dX11_ought_33 : decode cX11_ought 33 = .ok (.bipush (-2), 2) := by decide +kernel
theorem dX11_ought_35 : decode cX11_ought 35 = .ok (.ireturn, 1) := by decide +kernel
theorem dX11_ought_36 : decode cX11_ought 36 = .ok (.aload_n 0, 1) := by decide +kernel
theorem dX11_ought_37 : decode cX11_ought 37 = .ok (.getfield 12, 3) := by decide +kernel
theorem dX11_ought_40 : decode cX11_ought 40 = .ok (.aload_n 0, 1) := by decide +kernel
theorem dX11_ought_41 : decode cX11_ought 41 = .ok (.getfield 12, 3) := by decide +kernel
theorem dX11_ought_44 : decode cX11_ought 44 = .ok (.getfield 143, 3) := by decide +kernel
theorem dX11_ought_47 : decode cX11_ought 47 = .ok (.invokevirtual 194, 3) := by decide +kernel
theorem dX11_ought_50 : decode cX11_ought 50 = .ok (.istore 5, 2) := by decide +kernel
theorem dX11_ought_52 : decode cX11_ought 52 = .ok (.aload_n 0, 1) := by decide +kernel
theorem dX11_ought_53 : decode cX11_ought 53 = .ok (.getfield 12, 3) := by decide +kernel
theorem dX11_ought_56 : decode cX11_ought 56 = .ok (.getfield 61, 3) := by decide +kernel
theorem dX11_ought_59 : decode cX11_ought 59 = .ok (.iload 5, 2) := by decide +kernel
theorem dX11_ought_61 : decode cX11_ought 61 = .ok (.iaload, 1) := by decide +kernel
theorem dX11_ought_62 : decode cX11_ought 62 = .ok (.iload_n 3, 1) := by decide +kernel
theorem dX11_ought_63 : decode cX11_ought 63 = .ok (.if_icmp .eq 6, 3) := by decide +kernel
theorem dX11_ought_66 : decode cX11_ought 66 = .ok (.bipush (-3), 2) := by decide +kernel
theorem dX11_ought_68 : decode cX11_ought 68 = .ok (.ireturn, 1) := by decide +kernel
theorem dX11_ought_69 : decode cX11_ought 69 = .ok (.aload_n 0, 1) := by decide +kernel
theorem dX11_ought_70 : decode cX11_ought 70 = .ok (.getfield 12, 3) := by decide +kernel
theorem dX11_ought_73 : decode cX11_ought 73 = .ok (.aload 4, 2) := by decide +kernel
theorem dX11_ought_75 : decode cX11_ought 75 = .ok (.aload_n 0, 1) := by decide +kernel
theorem dX11_ought_76 : decode cX11_ought 76 = .ok (.getfield 12, 3) := by decide +kernel
theorem dX11_ought_79 : decode cX11_ought 79 = .ok (.getfield 61, 3) := by decide +kernel
theorem dX11_ought_82 : decode cX11_ought 82 = .ok (.iload 5, 2) := by decide +kernel
theorem dX11_ought_84 : decode cX11_ought 84 = .ok (.aload_n 0, 1) := by decide +kernel
theorem dX11_ought_85 : decode cX11_ought 85 = .ok (.getfield 12, 3) := by decide +kernel
theorem dX11_ought_88 : decode cX11_ought 88 = .ok (.getfield 143, 3) := by decide +kernel
theorem dX11_ought_91 : decode cX11_ought 91 = .ok (.invokevirtual 119, 3) := by decide +kernel
theorem dX11_ought_94 : decode cX11_ought 94 = .ok (.istore 6, 2) := by decide +kernel
theorem dX11_ought_96 : decode cX11_ought 96 = .ok (.bipush (-5), 2) := by decide +kernel
theorem dX11_ought_98 : decode cX11_ought 98 = .ok (.istore 7, 2) := by decide +kernel
theorem dX11_ought_100 : decode cX11_ought 100 = .ok (.aload_n 0, 1) := by decide +kernel
theorem dX11_ought_101 : decode cX11_ought 101 = .ok (.aload 4, 2) := by decide +kernel
theorem dX11_ought_103 : decode cX11_ought 103 = .ok (.iload_n 2, 1) := by decide +kernel
theorem dX11_ought_104 : decode cX11_ought 104 = .ok (.iload_n 3, 1) := by decide +kernel
theorem dX11_ought_105 : decode cX11_ought 105 = .ok (.bipush (-5), 2) := by decide +kernel
theorem dX11_ought_107 : decode cX11_ought 107 = .ok (.invokevirtual 197, 3) := by decide +kernel
theorem dX11_ought_110 : decode cX11_ought 110 = .ok (.lstore 8, 2) := by decide +kernel
theorem dX11_ought_112 : decode cX11_ought 112 = .ok (.iconst 0, 1) := by decide +kernel
theorem dX11_ought_113 : decode cX11_ought 113 = .ok (.istore 10, 2) := by decide +kernel
theorem dX11_ought_115 : decode cX11_ought 115 = .ok (.iload 10, 2) := by decide +kernel
theorem dX11_ought_117 : decode cX11_ought 117 = .ok (.aload_n 0, 1) := by decide +kernel
theorem dX11_ought_118 : decode cX11_ought 118 = .ok (.getfield 12, 3) := by decide +kernel
theorem dX11_ought_121 : decode cX11_ought 121 = .ok (.getfield 57, 3) := by decide +kernel
theorem dX11_ought_124 : decode cX11_ought 124 = .ok (.if_icmp .ge 47, 3) := by decide +kernel
theorem dX11_ought_127 : decode cX11_ought 127 = .ok (.iload 6, 2) := by decide +kernel
theorem dX11_ought_129 : decode cX11_ought 129 = .ok (.iload 10, 2) := by decide +kernel
theorem dX11_ought_131 : decode cX11_ought 131 = .ok (.invokestatic 146, 3) := by decide +kernel
theorem dX11_ought_134 : decode cX11_ought 134 = .ok (.ifCond .eq 31, 3) := by decide +kernel
theorem dX11_ought_137 : decode cX11_ought 137 = .ok (.aload_n 0, 1) := by decide +kernel
theorem dX11_ought_138 : decode cX11_ought 138 = .ok (.aload 4, 2) := by decide +kernel
theorem dX11_ought_140 : decode cX11_ought 140 = .ok (.iload_n 2, 1) := by decide +kernel
theorem dX11_ought_141 : decode cX11_ought 141 = .ok (.iload_n 3, 1) := by decide +kernel
theorem dX11_ought_142 : decode cX11_ought 142 = .ok (.iload 10, 2) := by decide +kernel
theorem dX11_ought_144 : decode cX11_ought 144 = .ok (.invokevirtual 197, 3) := by decide +kernel
theorem dX11_ought_147 : decode cX11_ought 147 = .ok (.lstore 11, 2) := by decide +kernel
theorem dX11_ought_149 : decode cX11_ought 149 = .ok (.lload 11, 2) := by decide +kernel
theorem dX11_ought_151 : decode cX11_ought 151 = .ok (.lload 8, 2) := by decide +kernel
theorem dX11_ought_153 : decode cX11_ought 153 = .ok (.lcmp, 1) := by decide +kernel
theorem dX11_ought_154 : decode cX11_ought 154 = .ok (.ifCond .ge 11, 3) := by decide +kernel
theorem dX11_ought_157 : decode cX11_ought 157 = .ok (.lload 11, 2) := by decide +kernel
theorem dX11_ought_159 : decode cX11_ought 159 = .ok (.lstore 8, 2) := by decide +kernel
theorem dX11_ought_161 : decode cX11_ought 161 = .ok (.iload 10, 2) := by decide +kernel
theorem dX11_ought_163 : decode cX11_ought 163 = .ok (.istore 7, 2) := by decide +kernel
theorem dX11_ought_165 : decode cX11_ought 165 = .ok (.iinc 10 1, 3) := by decide +kernel
theorem dX11_ought_168 : decode cX11_ought 168 = .ok (.goto (-53), 3) := by decide +kernel
theorem dX11_ought_171 : decode cX11_ought 171 = .ok (.iload 7, 2) := by decide +kernel
theorem dX11_ought_173 : decode cX11_ought 173 = .ok (.ireturn, 1) := by decide +kernel
theorem dX11_row_0 : decode cX11_row 0 = .ok (.iload_n 1, 1) := by decide +kernel
theorem dX11_row_1 : decode cX11_row 1 = .ok (.bipush (-2), 2) := by decide +kernel
theorem dX11_row_3 : decode cX11_row 3 = .ok (.if_icmp .ne 13, 3) := by decide +kernel
theorem dX11_row_6 : decode cX11_row 6 = .ok (.aload_n 0, 1) := by decide +kernel
theorem dX11_row_7 : decode cX11_row 7 = .ok (.getfield 12, 3) := by decide +kernel
theorem dX11_row_10 : decode cX11_row 10 = .ok (.iconst 0, 1) := by decide +kernel
theorem dX11_row_11 : decode cX11_row 11 = .ok (.putfield 201, 3) := by decide +kernel
theorem dX11_row_14 : decode cX11_row 14 = .ok (.iconst 0, 1) := by decide +kernel
theorem dX11_row_15 : decode cX11_row 15 = .ok (.ireturn, 1) := by decide +kernel
theorem dX11_row_16 : decode cX11_row 16 = .ok (.iload_n 1, 1) := by decide +kernel
theorem dX11_row_17 : decode cX11_row 17 = .ok (.iconst (-1), 1) := by decide +kernel
theorem dX11_row_18 : decode cX11_row 18 = .ok (.if_icmp .lt 9, 3) := by decide +kernel
theorem dX11_row_21 : decode cX11_row 21 = .ok (.iload_n 1, 1) := by decide +kernel
theorem dX11_row_22 : decode cX11_row 22 = .ok (.bipush 6, 2) := by decide +kernel
theorem dX11_row_24 : decode cX11_row 24 = .ok (.if_icmp .lt 6, 3) := by decide +kernel
theorem dX11_row_27 : decode cX11_row 27 = .ok (.bipush (-2), 2) := by decide +kernel
theorem dX11_row_29 : decode cX11_row 29 = .ok (.ireturn, 1) := by decide +kernel
theorem dX11_row_30 : decode cX11_row 30 = .ok (.aload_n 0, 1) := by decide +kernel
theorem dX11_row_31 : decode cX11_row 31 = .ok (.getfield 12, 3) := by decide +kernel
theorem dX11_row_34 : decode cX11_row 34 = .ok (.getfield 201, 3) := by decide +kernel
theorem dX11_row_37 : decode cX11_row 37 = .ok (.bipush 6, 2) := by decide +kernel
theorem dX11_row_39 : decode cX11_row 39 = .ok (.if_icmp .lt 6, 3) := by decide +kernel
theorem dX11_row_42 : decode cX11_row 42 = .ok (.bipush (-4), 2) := by decide +kernel
theorem dX11_row_44 : decode cX11_row 44 = .ok (.ireturn, 1) := by decide +kernel
theorem dX11_row_45 : decode cX11_row 45 = .ok (.aload_n 0, 1) := by decide +kernel
theorem dX11_row_46 : decode cX11_row 46 = .ok (.getfield 12, 3) := by decide +kernel
theorem dX11_row_49 : decode cX11_row 49 = .ok (.getfield 204, 3) := by decide +kernel
theorem dX11_row_52 : decode cX11_row 52 = .ok (.aload_n 0, 1) := by decide +kernel
theorem dX11_row_53 : decode cX11_row 53 = .ok (.getfield 12, 3) := by decide +kernel
theorem dX11_row_56 : decode cX11_row 56 = .ok (.getfield 201, 3) := by decide +kernel
theorem dX11_row_59 : decode cX11_row 59 = .ok (.iload_n 1, 1) := by decide +kernel
theorem dX11_row_60 : decode cX11_row 60 = .ok (.iastore, 1) := by decide +kernel
theorem dX11_row_61 : decode cX11_row 61 = .ok (.aload_n 0, 1) := by decide +kernel
theorem dX11_row_62 : decode cX11_row 62 = .ok (.getfield 12, 3) := by decide +kernel
theorem dX11_row_65 : decode cX11_row 65 = .ok (.dup, 1) := by decide +kernel
theorem dX11_row_66 : decode cX11_row 66 = .ok (.getfield 201, 3) := by decide +kernel
theorem dX11_row_69 : decode cX11_row 69 = .ok (.iconst 1, 1) := by decide +kernel
theorem dX11_row_70 : decode cX11_row 70 = .ok (.iadd, 1) := by decide +kernel
theorem dX11_row_71 : decode cX11_row 71 = .ok (.putfield 201, 3) := by decide +kernel
theorem dX11_row_74 : decode cX11_row 74 = .ok (.aload_n 0, 1) := by decide +kernel
theorem dX11_row_75 : decode cX11_row 75 = .ok (.getfield 12, 3) := by decide +kernel
theorem dX11_row_78 : decode cX11_row 78 = .ok (.getfield 201, 3) := by decide +kernel
theorem dX11_row_81 : decode cX11_row 81 = .ok (.ireturn, 1) := by decide +kernel
theorem dX11_judged_0 : decode cX11_judged 0 = .ok (.aload_n 0, 1) := by decide +kernel
theorem dX11_judged_1 : decode cX11_judged 1 = .ok (.iload_n 1, 1) := by decide +kernel
theorem dX11_judged_2 : decode cX11_judged 2 = .ok (.invokevirtual 112, 3) := by decide +kernel
theorem dX11_judged_5 : decode cX11_judged 5 = .ok (.astore_n 3, 1) := by decide +kernel
theorem dX11_judged_6 : decode cX11_judged 6 = .ok (.aload_n 3, 1) := by decide +kernel
theorem dX11_judged_7 : decode cX11_judged 7 = .ok (.ifnonnull 5, 3) := by decide +kernel
theorem dX11_judged_10 : decode cX11_judged 10 = .ok (.iconst (-1), 1) := by decide +kernel
theorem dX11_judged_11 : decode cX11_judged 11 = .ok (.ireturn, 1) := by decide +kernel
theorem dX11_judged_12 : decode cX11_judged 12 = .ok (.iload_n 2, 1) := by decide +kernel
theorem dX11_judged_13 : decode cX11_judged 13 = .ok (.invokestatic 116, 3) := by decide +kernel
theorem dX11_judged_16 : decode cX11_judged 16 = .ok (.ifCond .ne 6, 3) := by decide +kernel
theorem dX11_judged_19 : decode cX11_judged 19 = .ok (.bipush (-2), 2) := by decide +kernel
theorem dX11_judged_21 : decode cX11_judged 21 = .ok (.ireturn, 1) := by decide +kernel
theorem dX11_judged_22 : decode cX11_judged 22 = .ok (.aload_n 0, 1) := by decide +kernel
theorem dX11_judged_23 : decode cX11_judged 23 = .ok (.getfield 12, 3) := by decide +kernel
theorem dX11_judged_26 : decode cX11_judged 26 = .ok (.getfield 201, 3) := by decide +kernel
theorem dX11_judged_29 : decode cX11_judged 29 = .ok (.aload_n 0, 1) := by decide +kernel
theorem dX11_judged_30 : decode cX11_judged 30 = .ok (.getfield 12, 3) := by decide +kernel
theorem dX11_judged_33 : decode cX11_judged 33 = .ok (.getfield 57, 3) := by decide +kernel
theorem dX11_judged_36 : decode cX11_judged 36 = .ok (.if_icmp .eq 6, 3) := by decide +kernel
theorem dX11_judged_39 : decode cX11_judged 39 = .ok (.bipush (-3), 2) := by decide +kernel
theorem dX11_judged_41 : decode cX11_judged 41 = .ok (.ireturn, 1) := by decide +kernel
theorem dX11_judged_42 : decode cX11_judged 42 = .ok (.iconst 0, 1) := by decide +kernel
theorem dX11_judged_43 : decode cX11_judged 43 = .ok (.istore 4, 2) := by decide +kernel
theorem dX11_judged_45 : decode cX11_judged 45 = .ok (.iload 4, 2) := by decide +kernel
theorem dX11_judged_47 : decode cX11_judged 47 = .ok (.aload_n 0, 1) := by decide +kernel
theorem dX11_judged_48 : decode cX11_judged 48 = .ok (.getfield 12, 3) := by decide +kernel
theorem dX11_judged_51 : decode cX11_judged 51 = .ok (.getfield 57, 3) := by decide +kernel
theorem dX11_judged_54 : decode cX11_judged 54 = .ok (.if_icmp .ge 56, 3) := by decide +kernel
theorem dX11_judged_57 : decode cX11_judged 57 = .ok (.aload_n 0, 1) := by decide +kernel
theorem dX11_judged_58 : decode cX11_judged 58 = .ok (.getfield 12, 3) := by decide +kernel
theorem dX11_judged_61 : decode cX11_judged 61 = .ok (.getfield 204, 3) := by decide +kernel
theorem dX11_judged_64 : decode cX11_judged 64 = .ok (.iload 4, 2) := by decide +kernel
theorem dX11_judged_66 : decode cX11_judged 66 = .ok (.iaload, 1) := by decide +kernel
theorem dX11_judged_67 : decode cX11_judged 67 = .ok (.iconst (-1), 1) := by decide +kernel
theorem dX11_judged_68 : decode cX11_judged 68 = .ok (.if_icmp .ne 8, 3) := by decide +kernel
theorem dX11_judged_71 : decode cX11_judged 71 = .ok (.bipush (-5), 2) := by decide +kernel
theorem dX11_judged_73 : decode cX11_judged 73 = .ok (.goto 13, 3) := by decide +kernel
theorem dX11_judged_76 : decode cX11_judged 76 = .ok (.aload_n 0, 1) := by decide +kernel
theorem dX11_judged_77 : decode cX11_judged 77 = .ok (.getfield 12, 3) := by decide +kernel
theorem dX11_judged_80 : decode cX11_judged 80 = .ok (.getfield 204, 3) := by decide +kernel
theorem dX11_judged_83 : decode cX11_judged 83 = .ok (.iload 4, 2) := by decide +kernel
theorem dX11_judged_85 : decode cX11_judged 85 = .ok (.iaload, 1) := by decide +kernel
theorem dX11_judged_86 : decode cX11_judged 86 = .ok (.istore 5, 2) := by decide +kernel
theorem dX11_judged_88 : decode cX11_judged 88 = .ok (.aload_n 0, 1) := by decide +kernel
theorem dX11_judged_89 : decode cX11_judged 89 = .ok (.aload_n 3, 1) := by decide +kernel
theorem dX11_judged_90 : decode cX11_judged 90 = .ok (.iload 4, 2) := by decide +kernel
theorem dX11_judged_92 : decode cX11_judged 92 = .ok (.iload_n 2, 1) := by decide +kernel
theorem dX11_judged_93 : decode cX11_judged 93 = .ok (.invokevirtual 139, 3) := by decide +kernel
theorem dX11_judged_96 : decode cX11_judged 96 = .ok (.iload 5, 2) := by decide +kernel
theorem dX11_judged_98 : decode cX11_judged 98 = .ok (.if_icmp .eq 6, 3) := by decide +kernel
theorem dX11_judged_101 : decode cX11_judged 101 = .ok (.iload 4, 2) := by decide +kernel
theorem dX11_judged_103 : decode cX11_judged 103 = .ok (.ireturn, 1) := by decide +kernel
theorem dX11_judged_104 : decode cX11_judged 104 = .ok (.iinc 4 1, 3) := by decide +kernel
theorem dX11_judged_107 : decode cX11_judged 107 = .ok (.goto (-62), 3) := by decide +kernel
theorem dX11_judged_110 : decode cX11_judged 110 = .ok (.bipush (-5), 2) := by decide +kernel
theorem dX11_judged_112 : decode cX11_judged 112 = .ok (.ireturn, 1) := by decide +kernel
theorem dX11_refuse_0 : decode cX11_refuse 0 = .ok (.aload_n 0, 1) := by decide +kernel
theorem dX11_refuse_1 : decode cX11_refuse 1 = .ok (.iload_n 1, 1) := by decide +kernel
theorem dX11_refuse_2 : decode cX11_refuse 2 = .ok (.invokevirtual 112, 3) := by decide +kernel
theorem dX11_refuse_5 : decode cX11_refuse 5 = .ok (.astore 5, 2) := by decide +kernel
theorem dX11_refuse_7 : decode cX11_refuse 7 = .ok (.aload 5, 2) := by decide +kernel
theorem dX11_refuse_9 : decode cX11_refuse 9 = .ok (.ifnull 26, 3) := by decide +kernel
theorem dX11_refuse_12 : decode cX11_refuse 12 = .ok (.iload_n 2, 1) := by decide +kernel
theorem dX11_refuse_13 : decode cX11_refuse 13 = .ok (.invokestatic 155, 3) := by decide +kernel
theorem dX11_refuse_16 : decode cX11_refuse 16 = .ok (.ifCond .eq 19, 3) := by decide +kernel
theorem dX11_refuse_19 : decode cX11_refuse 19 = .ok (.aload_n 0, 1) := by decide +kernel
theorem dX11_refuse_20 : decode cX11_refuse 20 = .ok (.iload_n 3, 1) := by decide +kernel
theorem dX11_refuse_21 : decode cX11_refuse 21 = .ok (.invokevirtual 64, 3) := by decide +kernel
theorem dX11_refuse_24 : decode cX11_refuse 24 = .ok (.ifCond .eq 11, 3) := by decide +kernel
theorem dX11_refuse_27 : decode cX11_refuse 27 = .ok (.iload 4, 2) := by decide +kernel
theorem dX11_refuse_29 : decode cX11_refuse 29 = .ok (.invokestatic 75, 3) := by decide +kernel
theorem dX11_refuse_32 : decode cX11_refuse 32 = .ok (.ifCond .ne 7, 3) := by decide +kernel
theorem dX11_refuse_35 : decode cX11_refuse 35 = .ok (.ldc2_w 158, 3) := by decide +kernel
theorem dX11_refuse_38 : decode cX11_refuse 38 = .ok (.lreturn, 1) := by decide +kernel
theorem dX11_refuse_39 : decode cX11_refuse 39 = .ok (.aload_n 0, 1) := by decide +kernel
theorem dX11_refuse_40 : decode cX11_refuse 40 = .ok (.aload 5, 2) := by decide +kernel
theorem dX11_refuse_42 : decode cX11_refuse 42 = .ok (.iload_n 2, 1) := by decide +kernel
theorem dX11_refuse_43 : decode cX11_refuse 43 = .ok (.aload_n 0, 1) := by decide +kernel
theorem dX11_refuse_44 : decode cX11_refuse 44 = .ok (.getfield 12, 3) := by decide +kernel
theorem dX11_refuse_47 : decode cX11_refuse 47 = .ok (.getfield 61, 3) := by decide +kernel
theorem dX11_refuse_50 : decode cX11_refuse 50 = .ok (.iconst 0, 1) := by decide +kernel
theorem dX11_refuse_51 : decode cX11_refuse 51 = .ok (.invokevirtual 160, 3) := by decide +kernel
theorem dX11_refuse_54 : decode cX11_refuse 54 = .ok (.aload_n 0, 1) := by decide +kernel
theorem dX11_refuse_55 : decode cX11_refuse 55 = .ok (.getfield 41, 3) := by decide +kernel
theorem dX11_refuse_58 : decode cX11_refuse 58 = .ok (.iload_n 3, 1) := by decide +kernel
theorem dX11_refuse_59 : decode cX11_refuse 59 = .ok (.invokevirtual 183, 3) := by decide +kernel
theorem dX11_refuse_62 : decode cX11_refuse 62 = .ok (.lstore 6, 2) := by decide +kernel
theorem dX11_refuse_64 : decode cX11_refuse 64 = .ok (.aload_n 0, 1) := by decide +kernel
theorem dX11_refuse_65 : decode cX11_refuse 65 = .ok (.aload 5, 2) := by decide +kernel
theorem dX11_refuse_67 : decode cX11_refuse 67 = .ok (.iload_n 2, 1) := by decide +kernel
theorem dX11_refuse_68 : decode cX11_refuse 68 = .ok (.aload_n 0, 1) := by decide +kernel
theorem dX11_refuse_69 : decode cX11_refuse 69 = .ok (.getfield 12, 3) := by decide +kernel
theorem dX11_refuse_72 : decode cX11_refuse 72 = .ok (.getfield 61, 3) := by decide +kernel
theorem dX11_refuse_75 : decode cX11_refuse 75 = .ok (.iconst 1, 1) := by decide +kernel
theorem dX11_refuse_76 : decode cX11_refuse 76 = .ok (.iload_n 3, 1) := by decide +kernel
theorem dX11_refuse_77 : decode cX11_refuse 77 = .ok (.ishl, 1) := by decide +kernel
theorem dX11_refuse_78 : decode cX11_refuse 78 = .ok (.invokevirtual 160, 3) := by decide +kernel
theorem dX11_refuse_81 : decode cX11_refuse 81 = .ok (.lload 6, 2) := by decide +kernel
theorem dX11_refuse_83 : decode cX11_refuse 83 = .ok (.aload_n 0, 1) := by decide +kernel
theorem dX11_refuse_84 : decode cX11_refuse 84 = .ok (.getfield 41, 3) := by decide +kernel
theorem dX11_refuse_87 : decode cX11_refuse 87 = .ok (.iload_n 3, 1) := by decide +kernel
theorem dX11_refuse_88 : decode cX11_refuse 88 = .ok (.invokevirtual 183, 3) := by decide +kernel
theorem dX11_refuse_91 : decode cX11_refuse 91 = .ok (.lsub, 1) := by decide +kernel
theorem dX11_refuse_92 : decode cX11_refuse 92 = .ok (.aload_n 0, 1) := by decide +kernel
theorem dX11_refuse_93 : decode cX11_refuse 93 = .ok (.getfield 41, 3) := by decide +kernel
theorem dX11_refuse_96 : decode cX11_refuse 96 = .ok (.invokevirtual 168, 3) := by decide +kernel
theorem dX11_refuse_99 : decode cX11_refuse 99 = .ok (.iload 4, 2) := by decide +kernel
theorem dX11_refuse_101 : decode cX11_refuse 101 = .ok (.invokestatic 172, 3) := by decide +kernel
theorem dX11_refuse_104 : decode cX11_refuse 104 = .ok (.lreturn, 1) := by decide +kernel
theorem dX11_begin_0 : decode cX11_begin 0 = .ok (.aload_n 0, 1) := by decide +kernel
theorem dX11_begin_1 : decode cX11_begin 1 = .ok (.iload_n 1, 1) := by decide +kernel
theorem dX11_begin_2 : decode cX11_begin 2 = .ok (.invokevirtual 112, 3) := by decide +kernel
theorem dX11_begin_5 : decode cX11_begin 5 = .ok (.astore 4, 2) := by decide +kernel
theorem dX11_begin_7 : decode cX11_begin 7 = .ok (.aload 4, 2) := by decide +kernel
theorem dX11_begin_9 : decode cX11_begin 9 = .ok (.ifnull 11, 3) := by decide +kernel
theorem dX11_begin_12 : decode cX11_begin 12 = .ok (.aload_n 0, 1) := by decide +kernel
theorem dX11_begin_13 : decode cX11_begin 13 = .ok (.iload_n 3, 1) := by decide +kernel
theorem dX11_begin_14 : decode cX11_begin 14 = .ok (.invokevirtual 64, 3) := by decide +kernel
theorem dX11_begin_17 : decode cX11_begin 17 = .ok (.ifCond .ne 5, 3) := by decide +kernel
theorem dX11_begin_20 : decode cX11_begin 20 = .ok (.iconst (-1), 1) := by decide +kernel
theorem dX11_begin_21 : decode cX11_begin 21 = .ok (.ireturn, 1) := by decide +kernel
theorem dX11_begin_22 : decode cX11_begin 22 = .ok (.iload_n 2, 1) := by decide +kernel
theorem dX11_begin_23 : decode cX11_begin 23 = .ok (.invokestatic 155, 3) := by decide +kernel
theorem dX11_begin_26 : decode cX11_begin 26 = .ok (.ifCond .ne 6, 3) := by decide +kernel
theorem dX11_begin_29 : decode cX11_begin 29 = .ok (.bipush (-2), 2) := by decide +kernel
theorem dX11_begin_31 : decode cX11_begin 31 = .ok (.ireturn, 1) := by decide +kernel
theorem dX11_begin_32 : decode cX11_begin 32 = .ok (.aload_n 0, 1) := by decide +kernel
theorem dX11_begin_33 : decode cX11_begin 33 = .ok (.getfield 12, 3) := by decide +kernel
theorem dX11_begin_36 : decode cX11_begin 36 = .ok (.aload_n 0, 1) := by decide +kernel
theorem dX11_begin_37 : decode cX11_begin 37 = .ok (.getfield 45, 3) := by decide +kernel
theorem dX11_begin_40 : decode cX11_begin 40 = .ok (.invokevirtual 78, 3) := by decide +kernel
theorem dX11_begin_43 : decode cX11_begin 43 = .ok (.aload_n 0, 1) := by decide +kernel
theorem dX11_begin_44 : decode cX11_begin 44 = .ok (.getfield 12, 3) := by decide +kernel
theorem dX11_begin_47 : decode cX11_begin 47 = .ok (.iload_n 3, 1) := by decide +kernel
theorem dX11_begin_48 : decode cX11_begin 48 = .ok (.invokevirtual 82, 3) := by decide +kernel
theorem dX11_begin_51 : decode cX11_begin 51 = .ok (.istore 5, 2) := by decide +kernel
theorem dX11_begin_53 : decode cX11_begin 53 = .ok (.iconst 0, 1) := by decide +kernel
theorem dX11_begin_54 : decode cX11_begin 54 = .ok (.istore 6, 2) := by decide +kernel
theorem dX11_begin_56 : decode cX11_begin 56 = .ok (.ldc2_w 205, 3) := by decide +kernel
theorem dX11_begin_59 : decode cX11_begin 59 = .ok (.lstore 7, 2) := by decide +kernel
theorem dX11_begin_61 : decode cX11_begin 61 = .ok (.iconst 0, 1) := by decide +kernel
theorem dX11_begin_62 : decode cX11_begin 62 = .ok (.istore 9, 2) := by decide +kernel
theorem dX11_begin_64 : decode cX11_begin 64 = .ok (.iload 9, 2) := by decide +kernel
theorem dX11_begin_66 : decode cX11_begin 66 = .ok (.aload_n 0, 1) := by decide +kernel
theorem dX11_begin_67 : decode cX11_begin 67 = .ok (.getfield 12, 3) := by decide +kernel
theorem dX11_begin_70 : decode cX11_begin 70 = .ok (.getfield 57, 3) := by decide +kernel
theorem dX11_begin_73 : decode cX11_begin 73 = .ok (.if_icmp .ge 89, 3) := by decide +kernel
theorem dX11_begin_76 : decode cX11_begin 76 = .ok (.aload_n 0, 1) := by decide +kernel
theorem dX11_begin_77 : decode cX11_begin 77 = .ok (.getfield 12, 3) := by decide +kernel
theorem dX11_begin_80 : decode cX11_begin 80 = .ok (.getfield 61, 3) := by decide +kernel
theorem dX11_begin_83 : decode cX11_begin 83 = .ok (.iconst 0, 1) := by decide +kernel
theorem dX11_begin_84 : decode cX11_begin 84 = .ok (.aload_n 0, 1) := by decide +kernel
theorem dX11_begin_85 : decode cX11_begin 85 = .ok (.getfield 51, 3) := by decide +kernel
theorem dX11_begin_88 : decode cX11_begin 88 = .ok (.iconst 0, 1) := by decide +kernel
theorem dX11_begin_89 : decode cX11_begin 89 = .ok (.aload_n 0, 1) := by decide +kernel
theorem dX11_begin_90 : decode cX11_begin 90 = .ok (.getfield 12, 3) := by decide +kernel
theorem dX11_begin_93 : decode cX11_begin 93 = .ok (.getfield 57, 3) := by decide +kernel
theorem dX11_begin_96 : decode cX11_begin 96 = .ok (.invokestatic 207, 3) := by decide +kernel
theorem dX11_begin_99 : decode cX11_begin 99 = .ok (.aload_n 0, 1) := by decide +kernel
theorem dX11_begin_100 : decode cX11_begin 100 = .ok (.getfield 51, 3) := by decide +kernel
theorem dX11_begin_103 : decode cX11_begin 103 = .ok (.iload 5, 2) := by decide +kernel
theorem dX11_begin_105 : decode cX11_begin 105 = .ok (.iload 9, 2) := by decide +kernel
theorem dX11_begin_107 : decode cX11_begin 107 = .ok (.invokestatic 86, 3) := by decide +kernel
theorem dX11_begin_110 : decode cX11_begin 110 = .ok (.aload_n 0, 1) := by decide +kernel
theorem dX11_begin_111 : decode cX11_begin 111 = .ok (.aload 4, 2) := by decide +kernel
theorem dX11_begin_113 : decode cX11_begin 113 = .ok (.iload_n 2, 1) := by decide +kernel
theorem dX11_begin_114 : decode cX11_begin 114 = .ok (.aload_n 0, 1) := by decide +kernel
theorem dX11_begin_115 : decode cX11_begin 115 = .ok (.getfield 51, 3) := by decide +kernel
theorem dX11_begin_118 : decode cX11_begin 118 = .ok (.iconst 0, 1) := by decide +kernel
theorem dX11_begin_119 : decode cX11_begin 119 = .ok (.invokevirtual 160, 3) := by decide +kernel
theorem dX11_begin_122 : decode cX11_begin 122 = .ok (.aload_n 0, 1) := by decide +kernel
theorem dX11_begin_123 : decode cX11_begin 123 = .ok (.getfield 41, 3) := by decide +kernel
theorem dX11_begin_126 : decode cX11_begin 126 = .ok (.aload_n 0, 1) := by decide +kernel
theorem dX11_begin_127 : decode cX11_begin 127 = .ok (.getfield 45, 3) := by decide +kernel
theorem dX11_begin_130 : decode cX11_begin 130 = .ok (.invokevirtual 176, 3) := by decide +kernel
theorem dX11_begin_133 : decode cX11_begin 133 = .ok (.lload 7, 2) := by decide +kernel
theorem dX11_begin_135 : decode cX11_begin 135 = .ok (.lcmp, 1) := by decide +kernel
theorem dX11_begin_136 : decode cX11_begin 136 = .ok (.ifCond .le 20, 3) := by decide +kernel
theorem dX11_begin_139 : decode cX11_begin 139 = .ok (.aload_n 0, 1) := by decide +kernel
theorem dX11_begin_140 : decode cX11_begin 140 = .ok (.getfield 41, 3) := by decide +kernel
theorem dX11_begin_143 : decode cX11_begin 143 = .ok (.aload_n 0, 1) := by decide +kernel
theorem dX11_begin_144 : decode cX11_begin 144 = .ok (.getfield 45, 3) := by decide +kernel
theorem dX11_begin_147 : decode cX11_begin 147 = .ok (.invokevirtual 176, 3) := by decide +kernel
theorem dX11_begin_150 : decode cX11_begin 150 = .ok (.lstore 7, 2) := by decide +kernel
theorem dX11_begin_152 : decode cX11_begin 152 = .ok (.iload 9, 2) := by decide +kernel
theorem dX11_begin_154 : decode cX11_begin 154 = .ok (.istore 6, 2) := by decide +kernel
theorem dX11_begin_156 : decode cX11_begin 156 = .ok (.iinc 9 1, 3) := by decide +kernel
theorem dX11_begin_159 : decode cX11_begin 159 = .ok (.goto (-95), 3) := by decide +kernel
theorem dX11_begin_162 : decode cX11_begin 162 = .ok (.iload 6, 2) := by decide +kernel
theorem dX11_begin_164 : decode cX11_begin 164 = .ok (.ireturn, 1) := by decide +kernel
theorem dX11_best_0 : decode cX11_best 0 = .ok (.iload_n 1, 1) := by decide +kernel
theorem dX11_best_1 : decode cX11_best 1 = .ok (.invokestatic 155, 3) := by decide +kernel
theorem dX11_best_4 : decode cX11_best 4 = .ok (.ifCond .ne 6, 3) := by decide +kernel
theorem dX11_best_7 : decode cX11_best 7 = .ok (.bipush (-2), 2) := by decide +kernel
theorem dX11_best_9 : decode cX11_best 9 = .ok (.ireturn, 1) := by decide +kernel
theorem dX11_best_10 : decode cX11_best 10 = .ok (.aload_n 0, 1) := by decide +kernel
theorem dX11_best_11 : decode cX11_best 11 = .ok (.getfield 12, 3) := by decide +kernel
theorem dX11_best_14 : decode cX11_best 14 = .ok (.getfield 57, 3) := by decide +kernel
theorem dX11_best_17 : decode cX11_best 17 = .ok (.ifCond .ne 6, 3) := by decide +kernel
theorem dX11_best_20 : decode cX11_best 20 = .ok (.bipush (-5), 2) := by decide +kernel
theorem dX11_best_22 : decode cX11_best 22 = .ok (.ireturn, 1) := by decide +kernel
theorem dX11_best_23 : decode cX11_best 23 = .ok (.aload_n 0, 1) := by decide +kernel
theorem dX11_best_24 : decode cX11_best 24 = .ok (.getfield 12, 3) := by decide +kernel
theorem dX11_best_27 : decode cX11_best 27 = .ok (.aload_n 0, 1) := by decide +kernel
theorem dX11_best_28 : decode cX11_best 28 = .ok (.getfield 45, 3) := by decide +kernel
theorem dX11_best_31 : decode cX11_best 31 = .ok (.invokevirtual 78, 3) := by decide +kernel
theorem dX11_best_34 : decode cX11_best 34 = .ok (.bipush (-5), 2) := by decide +kernel
theorem dX11_best_36 : decode cX11_best 36 = .ok (.istore_n 2, 1) := by decide +kernel
theorem dX11_best_37 : decode cX11_best 37 = .ok (.ldc2_w 205, 3) := by decide +kernel
theorem dX11_best_40 : decode cX11_best 40 = .ok (.lstore_n 3, 1) := by decide +kernel
theorem dX11_best_41 : decode cX11_best 41 = .ok (.iconst 0, 1) := by decide +kernel
theorem dX11_best_42 : decode cX11_best 42 = .ok (.istore 5, 2) := by decide +kernel
theorem dX11_best_44 : decode cX11_best 44 = .ok (.iload 5, 2) := by decide +kernel
theorem dX11_best_46 : decode cX11_best 46 = .ok (.aload_n 0, 1) := by decide +kernel
theorem dX11_best_47 : decode cX11_best 47 = .ok (.getfield 12, 3) := by decide +kernel
theorem dX11_best_50 : decode cX11_best 50 = .ok (.getfield 97, 3) := by decide +kernel
theorem dX11_best_53 : decode cX11_best 53 = .ok (.if_icmp .ge 63, 3) := by decide +kernel
theorem dX11_best_56 : decode cX11_best 56 = .ok (.aload_n 0, 1) := by decide +kernel
theorem dX11_best_57 : decode cX11_best 57 = .ok (.aload_n 0, 1) := by decide +kernel
theorem dX11_best_58 : decode cX11_best 58 = .ok (.getfield 12, 3) := by decide +kernel
theorem dX11_best_61 : decode cX11_best 61 = .ok (.getfield 108, 3) := by decide +kernel
theorem dX11_best_64 : decode cX11_best 64 = .ok (.iload 5, 2) := by decide +kernel
theorem dX11_best_66 : decode cX11_best 66 = .ok (.aaload, 1) := by decide +kernel
theorem dX11_best_67 : decode cX11_best 67 = .ok (.iload_n 1, 1) := by decide +kernel
theorem dX11_best_68 : decode cX11_best 68 = .ok (.aload_n 0, 1) := by decide +kernel
theorem dX11_best_69 : decode cX11_best 69 = .ok (.getfield 12, 3) := by decide +kernel
theorem dX11_best_72 : decode cX11_best 72 = .ok (.getfield 61, 3) := by decide +kernel
theorem dX11_best_75 : decode cX11_best 75 = .ok (.iconst 0, 1) := by decide +kernel
theorem dX11_best_76 : decode cX11_best 76 = .ok (.invokevirtual 160, 3) := by decide +kernel
theorem dX11_best_79 : decode cX11_best 79 = .ok (.aload_n 0, 1) := by decide +kernel
theorem dX11_best_80 : decode cX11_best 80 = .ok (.getfield 41, 3) := by decide +kernel
theorem dX11_best_83 : decode cX11_best 83 = .ok (.aload_n 0, 1) := by decide +kernel
theorem dX11_best_84 : decode cX11_best 84 = .ok (.getfield 45, 3) := by decide +kernel
theorem dX11_best_87 : decode cX11_best 87 = .ok (.invokevirtual 176, 3) := by decide +kernel
theorem dX11_best_90 : decode cX11_best 90 = .ok (.lload_n 3, 1) := by decide +kernel
theorem dX11_best_91 : decode cX11_best 91 = .ok (.lcmp, 1) := by decide +kernel
theorem dX11_best_92 : decode cX11_best 92 = .ok (.ifCond .le 18, 3) := by decide +kernel
theorem dX11_best_95 : decode cX11_best 95 = .ok (.aload_n 0, 1) := by decide +kernel
theorem dX11_best_96 : decode cX11_best 96 = .ok (.getfield 41, 3) := by decide +kernel
theorem dX11_best_99 : decode cX11_best 99 = .ok (.aload_n 0, 1) := by decide +kernel
theorem dX11_best_100 : decode cX11_best 100 = .ok (.getfield 45, 3) := by decide +kernel
theorem dX11_best_103 : decode cX11_best 103 = .ok (.invokevirtual 176, 3) := by decide +kernel
theorem dX11_best_106 : decode cX11_best 106 = .ok (.lstore_n 3, 1) := by decide +kernel
theorem dX11_best_107 : decode cX11_best 107 = .ok (.iload 5, 2) := by decide +kernel
theorem dX11_best_109 : decode cX11_best 109 = .ok (.istore_n 2, 1) := by decide +kernel
theorem dX11_best_110 : decode cX11_best 110 = .ok (.iinc 5 1, 3) := by decide +kernel
theorem dX11_best_113 : decode cX11_best 113 = .ok (.goto (-69), 3) := by decide +kernel
theorem dX11_best_116 : decode cX11_best 116 = .ok (.iload_n 2, 1) := by decide +kernel
theorem dX11_best_117 : decode cX11_best 117 = .ok (.ireturn, 1) := by decide +kernel
theorem dX11_round_0 : decode cX11_round 0 = .ok (.iload_n 1, 1) := by decide +kernel
theorem dX11_round_1 : decode cX11_round 1 = .ok (.iconst (-1), 1) := by decide +kernel
theorem dX11_round_2 : decode cX11_round 2 = .ok (.if_icmp .ne 13, 3) := by decide +kernel
theorem dX11_round_5 : decode cX11_round 5 = .ok (.aload_n 0, 1) := by decide +kernel
theorem dX11_round_6 : decode cX11_round 6 = .ok (.getfield 12, 3) := by decide +kernel
theorem dX11_round_9 : decode cX11_round 9 = .ok (.iconst 0, 1) := by decide +kernel
theorem dX11_round_10 : decode cX11_round 10 = .ok (.putfield 213, 3) := by decide +kernel
theorem dX11_round_13 : decode cX11_round 13 = .ok (.iconst 0, 1) := by decide +kernel
theorem dX11_round_14 : decode cX11_round 14 = .ok (.ireturn, 1) := by decide +kernel
theorem dX11_round_15 : decode cX11_round 15 = .ok (.iload_n 1, 1) := by decide +kernel
theorem dX11_round_16 : decode cX11_round 16 = .ok (.ifCond .lt 14, 3) := by decide +kernel
theorem dX11_round_19 : decode cX11_round 19 = .ok (.iload_n 2, 1) := by decide +kernel
theorem dX11_round_20 : decode cX11_round 20 = .ok (.bipush 6, 2) := by decide +kernel
theorem dX11_round_22 : decode cX11_round 22 = .ok (.if_icmp .ge 8, 3) := by decide +kernel
theorem dX11_round_25 : decode cX11_round 25 = .ok (.iload_n 1, 1) := by decide +kernel
theorem dX11_round_26 : decode cX11_round 26 = .ok (.iload_n 2, 1) := by decide +kernel
theorem dX11_round_27 : decode cX11_round 27 = .ok (.if_icmp .lt 6, 3) := by decide +kernel
theorem dX11_round_30 : decode cX11_round 30 = .ok (.bipush (-2), 2) := by decide +kernel
theorem dX11_round_32 : decode cX11_round 32 = .ok (.ireturn, 1) := by decide +kernel
theorem dX11_round_33 : decode cX11_round 33 = .ok (.aload_n 0, 1) := by decide +kernel
theorem dX11_round_34 : decode cX11_round 34 = .ok (.getfield 12, 3) := by decide +kernel
theorem dX11_round_37 : decode cX11_round 37 = .ok (.getfield 213, 3) := by decide +kernel
theorem dX11_round_40 : decode cX11_round 40 = .ok (.bipush 15, 2) := by decide +kernel
theorem dX11_round_42 : decode cX11_round 42 = .ok (.if_icmp .lt 6, 3) := by decide +kernel
theorem dX11_round_45 : decode cX11_round 45 = .ok (.bipush (-4), 2) := by decide +kernel
theorem dX11_round_47 : decode cX11_round 47 = .ok (.ireturn, 1) := by decide +kernel
theorem dX11_round_48 : decode cX11_round 48 = .ok (.aload_n 0, 1) := by decide +kernel
theorem dX11_round_49 : decode cX11_round 49 = .ok (.getfield 12, 3) := by decide +kernel
theorem dX11_round_52 : decode cX11_round 52 = .ok (.getfield 216, 3) := by decide +kernel
theorem dX11_round_55 : decode cX11_round 55 = .ok (.aload_n 0, 1) := by decide +kernel
theorem dX11_round_56 : decode cX11_round 56 = .ok (.getfield 12, 3) := by decide +kernel
theorem dX11_round_59 : decode cX11_round 59 = .ok (.getfield 213, 3) := by decide +kernel
theorem dX11_round_62 : decode cX11_round 62 = .ok (.iload_n 1, 1) := by decide +kernel
theorem dX11_round_63 : decode cX11_round 63 = .ok (.iastore, 1) := by decide +kernel
theorem dX11_round_64 : decode cX11_round 64 = .ok (.aload_n 0, 1) := by decide +kernel
theorem dX11_round_65 : decode cX11_round 65 = .ok (.getfield 12, 3) := by decide +kernel
theorem dX11_round_68 : decode cX11_round 68 = .ok (.getfield 219, 3) := by decide +kernel
theorem dX11_round_71 : decode cX11_round 71 = .ok (.aload_n 0, 1) := by decide +kernel
theorem dX11_round_72 : decode cX11_round 72 = .ok (.getfield 12, 3) := by decide +kernel
theorem dX11_round_75 : decode cX11_round 75 = .ok (.getfield 213, 3) := by decide +kernel
theorem dX11_round_78 : decode cX11_round 78 = .ok (.iload_n 2, 1) := by decide +kernel
theorem dX11_round_79 : decode cX11_round 79 = .ok (.iastore, 1) := by decide +kernel
theorem dX11_round_80 : decode cX11_round 80 = .ok (.aload_n 0, 1) := by decide +kernel
theorem dX11_round_81 : decode cX11_round 81 = .ok (.getfield 12, 3) := by decide +kernel
theorem dX11_round_84 : decode cX11_round 84 = .ok (.dup, 1) := by decide +kernel
theorem dX11_round_85 : decode cX11_round 85 = .ok (.getfield 213, 3) := by decide +kernel
theorem dX11_round_88 : decode cX11_round 88 = .ok (.iconst 1, 1) := by decide +kernel
theorem dX11_round_89 : decode cX11_round 89 = .ok (.iadd, 1) := by decide +kernel
theorem dX11_round_90 : decode cX11_round 90 = .ok (.putfield 213, 3) := by decide +kernel
theorem dX11_round_93 : decode cX11_round 93 = .ok (.aload_n 0, 1) := by decide +kernel
theorem dX11_round_94 : decode cX11_round 94 = .ok (.getfield 12, 3) := by decide +kernel
theorem dX11_round_97 : decode cX11_round 97 = .ok (.getfield 213, 3) := by decide +kernel
theorem dX11_round_100 : decode cX11_round 100 = .ok (.ireturn, 1) := by decide +kernel
theorem dX11_sorts_0 : decode cX11_sorts 0 = .ok (.iload_n 1, 1) := by decide +kernel
theorem dX11_sorts_1 : decode cX11_sorts 1 = .ok (.invokestatic 75, 3) := by decide +kernel
theorem dX11_sorts_4 : decode cX11_sorts 4 = .ok (.ifCond .ne 5, 3) := by decide +kernel
theorem dX11_sorts_7 : decode cX11_sorts 7 = .ok (.iconst (-1), 1) := by decide +kernel
theorem dX11_sorts_8 : decode cX11_sorts 8 = .ok (.ireturn, 1) := by decide +kernel
theorem dX11_sorts_9 : decode cX11_sorts 9 = .ok (.aload_n 0, 1) := by decide +kernel
theorem dX11_sorts_10 : decode cX11_sorts 10 = .ok (.getfield 12, 3) := by decide +kernel
theorem dX11_sorts_13 : decode cX11_sorts 13 = .ok (.invokevirtual 222, 3) := by decide +kernel
theorem dX11_sorts_16 : decode cX11_sorts 16 = .ok (.ifCond .ne 6, 3) := by decide +kernel
theorem dX11_sorts_19 : decode cX11_sorts 19 = .ok (.bipush (-3), 2) := by decide +kernel
theorem dX11_sorts_21 : decode cX11_sorts 21 = .ok (.ireturn, 1) := by decide +kernel
theorem dX11_sorts_22 : decode cX11_sorts 22 = .ok (.aload_n 0, 1) := by decide +kernel
theorem dX11_sorts_23 : decode cX11_sorts 23 = .ok (.getfield 12, 3) := by decide +kernel
theorem dX11_sorts_26 : decode cX11_sorts 26 = .ok (.getfield 57, 3) := by decide +kernel
theorem dX11_sorts_29 : decode cX11_sorts 29 = .ok (.invokestatic 226, 3) := by decide +kernel
theorem dX11_sorts_32 : decode cX11_sorts 32 = .ok (.istore_n 2, 1) := by decide +kernel
theorem dX11_sorts_33 : decode cX11_sorts 33 = .ok (.iload_n 1, 1) := by decide +kernel
theorem dX11_sorts_34 : decode cX11_sorts 34 = .ok (.iconst 1, 1) := by decide +kernel
theorem dX11_sorts_35 : decode cX11_sorts 35 = .ok (.if_icmp .ne 5, 3) := by decide +kernel
theorem dX11_sorts_38 : decode cX11_sorts 38 = .ok (.iload_n 2, 1) := by decide +kernel
theorem dX11_sorts_39 : decode cX11_sorts 39 = .ok (.ireturn, 1) := by decide +kernel
theorem dX11_sorts_40 : decode cX11_sorts 40 = .ok (.aload_n 0, 1) := by decide +kernel
theorem dX11_sorts_41 : decode cX11_sorts 41 = .ok (.getfield 48, 3) := by decide +kernel
theorem dX11_sorts_44 : decode cX11_sorts 44 = .ok (.invokestatic 229, 3) := by decide +kernel
theorem dX11_sorts_47 : decode cX11_sorts 47 = .ok (.iconst 0, 1) := by decide +kernel
theorem dX11_sorts_48 : decode cX11_sorts 48 = .ok (.istore_n 3, 1) := by decide +kernel
theorem dX11_sorts_49 : decode cX11_sorts 49 = .ok (.iconst 0, 1) := by decide +kernel
theorem dX11_sorts_50 : decode cX11_sorts 50 = .ok (.istore 4, 2) := by decide +kernel
theorem dX11_sorts_52 : decode cX11_sorts 52 = .ok (.iload 4, 2) := by decide +kernel
theorem dX11_sorts_54 : decode cX11_sorts 54 = .ok (.iload_n 2, 1) := by decide +kernel
theorem dX11_sorts_55 : decode cX11_sorts 55 = .ok (.if_icmp .ge 66, 3) := by decide +kernel
theorem dX11_sorts_58 : decode cX11_sorts 58 = .ok (.aload_n 0, 1) := by decide +kernel
theorem dX11_sorts_59 : decode cX11_sorts 59 = .ok (.getfield 48, 3) := by decide +kernel
theorem dX11_sorts_62 : decode cX11_sorts 62 = .ok (.iconst 0, 1) := by decide +kernel
theorem dX11_sorts_63 : decode cX11_sorts 63 = .ok (.aload_n 0, 1) := by decide +kernel
theorem dX11_sorts_64 : decode cX11_sorts 64 = .ok (.getfield 51, 3) := by decide +kernel
theorem dX11_sorts_67 : decode cX11_sorts 67 = .ok (.iconst 0, 1) := by decide +kernel
theorem dX11_sorts_68 : decode cX11_sorts 68 = .ok (.bipush 6, 2) := by decide +kernel
theorem dX11_sorts_70 : decode cX11_sorts 70 = .ok (.invokestatic 207, 3) := by decide +kernel
theorem dX11_sorts_73 : decode cX11_sorts 73 = .ok (.aload_n 0, 1) := by decide +kernel
theorem dX11_sorts_74 : decode cX11_sorts 74 = .ok (.getfield 12, 3) := by decide +kernel
theorem dX11_sorts_77 : decode cX11_sorts 77 = .ok (.aload_n 0, 1) := by decide +kernel
theorem dX11_sorts_78 : decode cX11_sorts 78 = .ok (.getfield 51, 3) := by decide +kernel
theorem dX11_sorts_81 : decode cX11_sorts 81 = .ok (.invokevirtual 232, 3) := by decide +kernel
theorem dX11_sorts_84 : decode cX11_sorts 84 = .ok (.aload_n 0, 1) := by decide +kernel
theorem dX11_sorts_85 : decode cX11_sorts 85 = .ok (.getfield 12, 3) := by decide +kernel
theorem dX11_sorts_88 : decode cX11_sorts 88 = .ok (.aload_n 0, 1) := by decide +kernel
theorem dX11_sorts_89 : decode cX11_sorts 89 = .ok (.getfield 51, 3) := by decide +kernel
theorem dX11_sorts_92 : decode cX11_sorts 92 = .ok (.invokevirtual 235, 3) := by decide +kernel
theorem dX11_sorts_95 : decode cX11_sorts 95 = .ok (.ifCond .eq 6, 3) := by decide +kernel
theorem dX11_sorts_98 : decode cX11_sorts 98 = .ok (.iinc 3 1, 3) := by decide +kernel
theorem dX11_sorts_101 : decode cX11_sorts 101 = .ok (.aload_n 0, 1) := by decide +kernel
theorem dX11_sorts_102 : decode cX11_sorts 102 = .ok (.getfield 48, 3) := by decide +kernel
theorem dX11_sorts_105 : decode cX11_sorts 105 = .ok (.aload_n 0, 1) := by decide +kernel
theorem dX11_sorts_106 : decode cX11_sorts 106 = .ok (.getfield 12, 3) := by decide +kernel
theorem dX11_sorts_109 : decode cX11_sorts 109 = .ok (.getfield 57, 3) := by decide +kernel
theorem dX11_sorts_112 : decode cX11_sorts 112 = .ok (.invokestatic 239, 3) := by decide +kernel
theorem dX11_sorts_115 : decode cX11_sorts 115 = .ok (.iinc 4 1, 3) := by decide +kernel
theorem dX11_sorts_118 : decode cX11_sorts 118 = .ok (.goto (-66), 3) := by decide +kernel
theorem dX11_sorts_121 : decode cX11_sorts 121 = .ok (.iload_n 3, 1) := by decide +kernel
theorem dX11_sorts_122 : decode cX11_sorts 122 = .ok (.ireturn, 1) := by decide +kernel
theorem dX11_past_0 : decode cX11_past 0 = .ok (.aload_n 0, 1) := by decide +kernel
theorem dX11_past_1 : decode cX11_past 1 = .ok (.iload_n 1, 1) := by decide +kernel
theorem dX11_past_2 : decode cX11_past 2 = .ok (.invokevirtual 64, 3) := by decide +kernel
theorem dX11_past_5 : decode cX11_past 5 = .ok (.ifCond .eq 11, 3) := by decide +kernel
theorem dX11_past_8 : decode cX11_past 8 = .ok (.aload_n 0, 1) := by decide +kernel
theorem dX11_past_9 : decode cX11_past 9 = .ok (.iload_n 2, 1) := by decide +kernel
theorem dX11_past_10 : decode cX11_past 10 = .ok (.invokevirtual 64, 3) := by decide +kernel
theorem dX11_past_13 : decode cX11_past 13 = .ok (.ifCond .ne 5, 3) := by decide +kernel
theorem dX11_past_16 : decode cX11_past 16 = .ok (.iconst (-1), 1) := by decide +kernel
theorem dX11_past_17 : decode cX11_past 17 = .ok (.ireturn, 1) := by decide +kernel
theorem dX11_past_18 : decode cX11_past 18 = .ok (.iload_n 1, 1) := by decide +kernel
theorem dX11_past_19 : decode cX11_past 19 = .ok (.iload_n 2, 1) := by decide +kernel
theorem dX11_past_20 : decode cX11_past 20 = .ok (.if_icmp .eq 13, 3) := by decide +kernel
theorem dX11_past_23 : decode cX11_past 23 = .ok (.iload_n 3, 1) := by decide +kernel
theorem dX11_past_24 : decode cX11_past 24 = .ok (.ifCond .lt 9, 3) := by decide +kernel
theorem dX11_past_27 : decode cX11_past 27 = .ok (.iload_n 3, 1) := by decide +kernel
theorem dX11_past_28 : decode cX11_past 28 = .ok (.bipush 99, 2) := by decide +kernel
theorem dX11_past_30 : decode cX11_past 30 = .ok (.if_icmp .le 6, 3) := by decide +kernel
theorem dX11_past_33 : decode cX11_past 33 = .ok (.bipush (-2), 2) := by decide +kernel
theorem dX11_past_35 : decode cX11_past 35 = .ok (.ireturn, 1) := by decide +kernel
theorem dX11_past_36 : decode cX11_past 36 = .ok (.aload_n 0, 1) := by decide +kernel
theorem dX11_past_37 : decode cX11_past 37 = .ok (.getfield 12, 3) := by decide +kernel
theorem dX11_past_40 : decode cX11_past 40 = .ok (.getfield 243, 3) := by decide +kernel
theorem dX11_past_43 : decode cX11_past 43 = .ok (.iload_n 1, 1) := by decide +kernel
theorem dX11_past_44 : decode cX11_past 44 = .ok (.aaload, 1) := by decide +kernel
theorem dX11_past_45 : decode cX11_past 45 = .ok (.iload_n 2, 1) := by decide +kernel
theorem dX11_past_46 : decode cX11_past 46 = .ok (.iaload, 1) := by decide +kernel
theorem dX11_past_47 : decode cX11_past 47 = .ok (.istore 4, 2) := by decide +kernel
theorem dX11_past_49 : decode cX11_past 49 = .ok (.aload_n 0, 1) := by decide +kernel
theorem dX11_past_50 : decode cX11_past 50 = .ok (.getfield 12, 3) := by decide +kernel
theorem dX11_past_53 : decode cX11_past 53 = .ok (.getfield 243, 3) := by decide +kernel
theorem dX11_past_56 : decode cX11_past 56 = .ok (.iload_n 1, 1) := by decide +kernel
theorem dX11_past_57 : decode cX11_past 57 = .ok (.aaload, 1) := by decide +kernel
theorem dX11_past_58 : decode cX11_past 58 = .ok (.iload_n 2, 1) := by decide +kernel
theorem dX11_past_59 : decode cX11_past 59 = .ok (.iload_n 3, 1) := by decide +kernel
theorem dX11_past_60 : decode cX11_past 60 = .ok (.iastore, 1) := by decide +kernel
theorem dX11_past_61 : decode cX11_past 61 = .ok (.iload 4, 2) := by decide +kernel
theorem dX11_past_63 : decode cX11_past 63 = .ok (.ireturn, 1) := by decide +kernel
theorem dX11_really_0 : decode cX11_really 0 = .ok (.iload_n 1, 1) := by decide +kernel
theorem dX11_really_1 : decode cX11_really 1 = .ok (.tableswitch 48 0 2 #[27, 35, 43], 27) := by decide +kernel
theorem dX11_really_28 : decode cX11_really 28 = .ok (.aload_n 0, 1) := by decide +kernel
theorem dX11_really_29 : decode cX11_really 29 = .ok (.getfield 12, 3) := by decide +kernel
theorem dX11_really_32 : decode cX11_really 32 = .ok (.invokevirtual 246, 3) := by decide +kernel
theorem dX11_really_35 : decode cX11_really 35 = .ok (.ireturn, 1) := by decide +kernel
theorem dX11_really_36 : decode cX11_really 36 = .ok (.aload_n 0, 1) := by decide +kernel
theorem dX11_really_37 : decode cX11_really 37 = .ok (.getfield 12, 3) := by decide +kernel
theorem dX11_really_40 : decode cX11_really 40 = .ok (.invokevirtual 249, 3) := by decide +kernel
theorem dX11_really_43 : decode cX11_really 43 = .ok (.ireturn, 1) := by decide +kernel
theorem dX11_really_44 : decode cX11_really 44 = .ok (.aload_n 0, 1) := by decide +kernel
theorem dX11_really_45 : decode cX11_really 45 = .ok (.invokevirtual 252, 3) := by decide +kernel
theorem dX11_really_48 : decode cX11_really 48 = .ok (.ireturn, 1) := by decide +kernel
theorem dX11_really_49 : decode cX11_really 49 = .ok (.iconst (-1), 1) := by decide +kernel
theorem dX11_really_50 : decode cX11_really 50 = .ok (.ireturn, 1) := by decide +kernel
theorem dX11_order_0 : decode cX11_order 0 = .ok (.aload_n 0, 1) := by decide +kernel
theorem dX11_order_1 : decode cX11_order 1 = .ok (.iload_n 1, 1) := by decide +kernel
theorem dX11_order_2 : decode cX11_order 2 = .ok (.invokevirtual 72, 3) := by decide +kernel
theorem dX11_order_5 : decode cX11_order 5 = .ok (.ifCond .ne 5, 3) := by decide +kernel
theorem dX11_order_8 : decode cX11_order 8 = .ok (.iconst (-1), 1) := by decide +kernel
theorem dX11_order_9 : decode cX11_order 9 = .ok (.ireturn, 1) := by decide +kernel
theorem dX11_order_10 : decode cX11_order 10 = .ok (.aload_n 0, 1) := by decide +kernel
theorem dX11_order_11 : decode cX11_order 11 = .ok (.invokevirtual 252, 3) := by decide +kernel
theorem dX11_order_14 : decode cX11_order 14 = .ok (.pop, 1) := by decide +kernel
theorem dX11_order_15 : decode cX11_order 15 = .ok (.aload_n 0, 1) := by decide +kernel
theorem dX11_order_16 : decode cX11_order 16 = .ok (.getfield 54, 3) := by decide +kernel
theorem dX11_order_19 : decode cX11_order 19 = .ok (.iload_n 1, 1) := by decide +kernel
theorem dX11_order_20 : decode cX11_order 20 = .ok (.iaload, 1) := by decide +kernel
theorem dX11_order_21 : decode cX11_order 21 = .ok (.ireturn, 1) := by decide +kernel
theorem dX11_run_0 : decode cX11_run 0 = .ok (.aload_n 0, 1) := by decide +kernel
theorem dX11_run_1 : decode cX11_run 1 = .ok (.iload_n 1, 1) := by decide +kernel
theorem dX11_run_2 : decode cX11_run 2 = .ok (.invokevirtual 112, 3) := by decide +kernel
theorem dX11_run_5 : decode cX11_run 5 = .ok (.astore 4, 2) := by decide +kernel
theorem dX11_run_7 : decode cX11_run 7 = .ok (.aload 4, 2) := by decide +kernel
theorem dX11_run_9 : decode cX11_run 9 = .ok (.ifnonnull 5, 3) := by decide +kernel
theorem dX11_run_12 : decode cX11_run 12 = .ok (.iconst (-1), 1) := by decide +kernel
theorem dX11_run_13 : decode cX11_run 13 = .ok (.ireturn, 1) := by decide +kernel
theorem dX11_run_14 : decode cX11_run 14 = .ok (.iload_n 2, 1) := by decide +kernel
theorem dX11_run_15 : decode cX11_run 15 = .ok (.iconst 1, 1) := by decide +kernel
theorem dX11_run_16 : decode cX11_run 16 = .ok (.if_icmp .lt 35, 3) := by decide +kernel
theorem dX11_run_19 : decode cX11_run 19 = .ok (.iload_n 2, 1) := by decide +kernel
theorem dX11_run_20 : decode cX11_run 20 = .ok (.bipush 99, 2) := by decide +kernel
theorem dX11_run_22 : decode cX11_run 22 = .ok (.if_icmp .gt 29, 3) := by decide +kernel
theorem dX11_run_25 : decode cX11_run 25 = .ok (.iload_n 3, 1) := by decide +kernel
theorem dX11_run_26 : decode cX11_run 26 = .ok (.ifCond .lt 25, 3) := by decide +kernel
theorem dX11_run_29 : decode cX11_run 29 = .ok (.iload_n 3, 1) := by decide +kernel
theorem dX11_run_30 : decode cX11_run 30 = .ok (.sipush 999, 3) := by decide +kernel
theorem dX11_run_33 : decode cX11_run 33 = .ok (.if_icmp .gt 18, 3) := by decide +kernel
theorem dX11_run_36 : decode cX11_run 36 = .ok (.aload_n 0, 1) := by decide +kernel
theorem dX11_run_37 : decode cX11_run 37 = .ok (.getfield 12, 3) := by decide +kernel
theorem dX11_run_40 : decode cX11_run 40 = .ok (.getfield 143, 3) := by decide +kernel
theorem dX11_run_43 : decode cX11_run 43 = .ok (.iload_n 2, 1) := by decide +kernel
theorem dX11_run_44 : decode cX11_run 44 = .ok (.iadd, 1) := by decide +kernel
theorem dX11_run_45 : decode cX11_run 45 = .ok (.sipush 999, 3) := by decide +kernel
theorem dX11_run_48 : decode cX11_run 48 = .ok (.if_icmp .le 6, 3) := by decide +kernel
theorem dX11_run_51 : decode cX11_run 51 = .ok (.bipush (-2), 2) := by decide +kernel
theorem dX11_run_53 : decode cX11_run 53 = .ok (.ireturn, 1) := by decide +kernel
theorem dX11_run_54 : decode cX11_run 54 = .ok (.iconst 0, 1) := by decide +kernel
theorem dX11_run_55 : decode cX11_run 55 = .ok (.istore 5, 2) := by decide +kernel
theorem dX11_run_57 : decode cX11_run 57 = .ok (.iload 5, 2) := by decide +kernel
theorem dX11_run_59 : decode cX11_run 59 = .ok (.iload_n 2, 1) := by decide +kernel
theorem dX11_run_60 : decode cX11_run 60 = .ok (.if_icmp .ge 29, 3) := by decide +kernel
theorem dX11_run_63 : decode cX11_run 63 = .ok (.aload_n 0, 1) := by decide +kernel
theorem dX11_run_64 : decode cX11_run 64 = .ok (.aload 4, 2) := by decide +kernel
theorem dX11_run_66 : decode cX11_run 66 = .ok (.iload_n 3, 1) := by decide +kernel
theorem dX11_run_67 : decode cX11_run 67 = .ok (.invokevirtual 255, 3) := by decide +kernel
theorem dX11_run_70 : decode cX11_run 70 = .ok (.aload_n 0, 1) := by decide +kernel
theorem dX11_run_71 : decode cX11_run 71 = .ok (.getfield 12, 3) := by decide +kernel
theorem dX11_run_74 : decode cX11_run 74 = .ok (.dup, 1) := by decide +kernel
theorem dX11_run_75 : decode cX11_run 75 = .ok (.getfield 143, 3) := by decide +kernel
theorem dX11_run_78 : decode cX11_run 78 = .ok (.iconst 1, 1) := by decide +kernel
theorem dX11_run_79 : decode cX11_run 79 = .ok (.iadd, 1) := by decide +kernel
theorem dX11_run_80 : decode cX11_run 80 = .ok (.putfield 143, 3) := by decide +kernel
theorem dX11_run_83 : decode cX11_run 83 = .ok (.iinc 5 1, 3) := by decide +kernel
theorem dX11_run_86 : decode cX11_run 86 = .ok (.goto (-29), 3) := by decide +kernel
theorem dX11_run_89 : decode cX11_run 89 = .ok (.aload_n 0, 1) := by decide +kernel
theorem dX11_run_90 : decode cX11_run 90 = .ok (.invokevirtual 259, 3) := by decide +kernel
theorem dX11_run_93 : decode cX11_run 93 = .ok (.ireturn, 1) := by decide +kernel
theorem dX11_act_0 : decode cX11_act 0 = .ok (.aload_n 0, 1) := by decide +kernel
theorem dX11_act_1 : decode cX11_act 1 = .ok (.getfield 25, 3) := by decide +kernel
theorem dX11_act_4 : decode cX11_act 4 = .ok (.iconst 0, 1) := by decide +kernel
theorem dX11_act_5 : decode cX11_act 5 = .ok (.iconst 0, 1) := by decide +kernel
theorem dX11_act_6 : decode cX11_act 6 = .ok (.iastore, 1) := by decide +kernel
theorem dX11_act_7 : decode cX11_act 7 = .ok (.aload_n 0, 1) := by decide +kernel
theorem dX11_act_8 : decode cX11_act 8 = .ok (.iload_n 1, 1) := by decide +kernel
theorem dX11_act_9 : decode cX11_act 9 = .ok (.invokevirtual 64, 3) := by decide +kernel
theorem dX11_act_12 : decode cX11_act 12 = .ok (.ifCond .ne 5, 3) := by decide +kernel
theorem dX11_act_15 : decode cX11_act 15 = .ok (.iconst 0, 1) := by decide +kernel
theorem dX11_act_16 : decode cX11_act 16 = .ok (.ireturn, 1) := by decide +kernel
theorem dX11_act_17 : decode cX11_act 17 = .ok (.aload_n 0, 1) := by decide +kernel
theorem dX11_act_18 : decode cX11_act 18 = .ok (.getfield 12, 3) := by decide +kernel
theorem dX11_act_21 : decode cX11_act 21 = .ok (.getfield 126, 3) := by decide +kernel
theorem dX11_act_24 : decode cX11_act 24 = .ok (.iload_n 1, 1) := by decide +kernel
theorem dX11_act_25 : decode cX11_act 25 = .ok (.aaload, 1) := by decide +kernel
theorem dX11_act_26 : decode cX11_act 26 = .ok (.astore 4, 2) := by decide +kernel
theorem dX11_act_28 : decode cX11_act 28 = .ok (.iload_n 2, 1) := by decide +kernel
theorem dX11_act_29 : decode cX11_act 29 = .ok (.tableswitch 60 0 2 #[27, 38, 49], 27) := by decide +kernel
theorem dX11_act_56 : decode cX11_act 56 = .ok (.aload 4, 2) := by decide +kernel
theorem dX11_act_58 : decode cX11_act 58 = .ok (.iload_n 3, 1) := by decide +kernel
theorem dX11_act_59 : decode cX11_act 59 = .ok (.aload_n 0, 1) := by decide +kernel
theorem dX11_act_60 : decode cX11_act 60 = .ok (.getfield 25, 3) := by decide +kernel
theorem dX11_act_63 : decode cX11_act 63 = .ok (.invokevirtual 262, 3) := by decide +kernel
theorem dX11_act_66 : decode cX11_act 66 = .ok (.ireturn, 1) := by decide +kernel
theorem dX11_act_67 : decode cX11_act 67 = .ok (.aload 4, 2) := by decide +kernel
theorem dX11_act_69 : decode cX11_act 69 = .ok (.iload_n 3, 1) := by decide +kernel
theorem dX11_act_70 : decode cX11_act 70 = .ok (.aload_n 0, 1) := by decide +kernel
theorem dX11_act_71 : decode cX11_act 71 = .ok (.getfield 25, 3) := by decide +kernel
theorem dX11_act_74 : decode cX11_act 74 = .ok (.invokevirtual 266, 3) := by decide +kernel
theorem dX11_act_77 : decode cX11_act 77 = .ok (.ireturn, 1) := by decide +kernel
theorem dX11_act_78 : decode cX11_act 78 = .ok (.aload 4, 2) := by decide +kernel
theorem dX11_act_80 : decode cX11_act 80 = .ok (.iload_n 3, 1) := by decide +kernel
theorem dX11_act_81 : decode cX11_act 81 = .ok (.aload_n 0, 1) := by decide +kernel
theorem dX11_act_82 : decode cX11_act 82 = .ok (.getfield 25, 3) := by decide +kernel
theorem dX11_act_85 : decode cX11_act 85 = .ok (.invokevirtual 269, 3) := by decide +kernel
theorem dX11_act_88 : decode cX11_act 88 = .ok (.ireturn, 1) := by decide +kernel
theorem dX11_act_89 : decode cX11_act 89 = .ok (.iconst 0, 1) := by decide +kernel
theorem dX11_act_90 : decode cX11_act 90 = .ok (.ireturn, 1) := by decide +kernel
theorem dX11_trace_0 : decode cX11_trace 0 = .ok (.iload_n 1, 1) := by decide +kernel
theorem dX11_trace_1 : decode cX11_trace 1 = .ok (.ifCond .lt 30, 3) := by decide +kernel
theorem dX11_trace_4 : decode cX11_trace 4 = .ok (.iload_n 1, 1) := by decide +kernel
theorem dX11_trace_5 : decode cX11_trace 5 = .ok (.aload_n 0, 1) := by decide +kernel
theorem dX11_trace_6 : decode cX11_trace 6 = .ok (.getfield 25, 3) := by decide +kernel
theorem dX11_trace_9 : decode cX11_trace 9 = .ok (.iconst 0, 1) := by decide +kernel
theorem dX11_trace_10 : decode cX11_trace 10 = .ok (.iaload, 1) := by decide +kernel
theorem dX11_trace_11 : decode cX11_trace 11 = .ok (.if_icmp .ge 20, 3) := by decide +kernel
theorem dX11_trace_14 : decode cX11_trace 14 = .ok (.iload_n 1, 1) := by decide +kernel
theorem dX11_trace_15 : decode cX11_trace 15 = .ok (.bipush 20, 2) := by decide +kernel
theorem dX11_trace_17 : decode cX11_trace 17 = .ok (.if_icmp .ge 14, 3) := by decide +kernel
theorem dX11_trace_20 : decode cX11_trace 20 = .ok (.aload_n 0, 1) := by decide +kernel
theorem dX11_trace_21 : decode cX11_trace 21 = .ok (.getfield 25, 3) := by decide +kernel
theorem dX11_trace_24 : decode cX11_trace 24 = .ok (.iconst 1, 1) := by decide +kernel
theorem dX11_trace_25 : decode cX11_trace 25 = .ok (.iload_n 1, 1) := by decide +kernel
theorem dX11_trace_26 : decode cX11_trace 26 = .ok (.iadd, 1) := by decide +kernel
theorem dX11_trace_27 : decode cX11_trace 27 = .ok (.iaload, 1) := by decide +kernel
theorem dX11_trace_28 : decode cX11_trace 28 = .ok (.goto 4, 3) := by decide +kernel
theorem dX11_trace_31 : decode cX11_trace 31 = .ok (.iconst (-1), 1) := by decide +kernel
theorem dX11_trace_32 : decode cX11_trace 32 = .ok (.ireturn, 1) := by decide +kernel
theorem dX11_as_0 : decode cX11_as 0 = .ok (.aload_n 0, 1) := by decide +kernel
theorem dX11_as_1 : decode cX11_as 1 = .ok (.iload_n 1, 1) := by decide +kernel
theorem dX11_as_2 : decode cX11_as 2 = .ok (.invokevirtual 64, 3) := by decide +kernel
theorem dX11_as_5 : decode cX11_as 5 = .ok (.ifCond .eq 10, 3) := by decide +kernel
theorem dX11_as_8 : decode cX11_as 8 = .ok (.iload_n 2, 1) := by decide +kernel
theorem dX11_as_9 : decode cX11_as 9 = .ok (.invokestatic 123, 3) := by decide +kernel
theorem dX11_as_12 : decode cX11_as 12 = .ok (.ifCond .ne 5, 3) := by decide +kernel
theorem dX11_as_15 : decode cX11_as 15 = .ok (.iconst (-1), 1) := by decide +kernel
theorem dX11_as_16 : decode cX11_as 16 = .ok (.ireturn, 1) := by decide +kernel
theorem dX11_as_17 : decode cX11_as 17 = .ok (.aload_n 0, 1) := by decide +kernel
theorem dX11_as_18 : decode cX11_as 18 = .ok (.getfield 12, 3) := by decide +kernel
theorem dX11_as_21 : decode cX11_as 21 = .ok (.getfield 126, 3) := by decide +kernel
theorem dX11_as_24 : decode cX11_as 24 = .ok (.iload_n 1, 1) := by decide +kernel
theorem dX11_as_25 : decode cX11_as 25 = .ok (.aaload, 1) := by decide +kernel
theorem dX11_as_26 : decode cX11_as 26 = .ok (.iload_n 2, 1) := by decide +kernel
theorem dX11_as_27 : decode cX11_as 27 = .ok (.invokestatic 272, 3) := by decide +kernel
theorem dX11_as_30 : decode cX11_as 30 = .ok (.ifCond .eq 18, 3) := by decide +kernel
theorem dX11_as_33 : decode cX11_as 33 = .ok (.aload_n 0, 1) := by decide +kernel
theorem dX11_as_34 : decode cX11_as 34 = .ok (.getfield 12, 3) := by decide +kernel
theorem dX11_as_37 : decode cX11_as 37 = .ok (.getfield 126, 3) := by decide +kernel
theorem dX11_as_40 : decode cX11_as 40 = .ok (.iload_n 1, 1) := by decide +kernel
theorem dX11_as_41 : decode cX11_as 41 = .ok (.aaload, 1) := by decide +kernel
theorem dX11_as_42 : decode cX11_as 42 = .ok (.getfield 276, 3) := by decide +kernel
theorem dX11_as_45 : decode cX11_as 45 = .ok (.goto 5, 3) := by decide +kernel
theorem dX11_as_48 : decode cX11_as 48 = .ok (.bipush (-6), 2) := by decide +kernel
theorem dX11_as_50 : decode cX11_as 50 = .ok (.ireturn, 1) := by decide +kernel
theorem dX11_image_0 : decode cX11_image 0 = .ok (.aload_n 0, 1) := by decide +kernel
theorem dX11_image_1 : decode cX11_image 1 = .ok (.getfield 18, 3) := by decide +kernel
theorem dX11_image_4 : decode cX11_image 4 = .ok (.aload_n 0, 1) := by decide +kernel
theorem dX11_image_5 : decode cX11_image 5 = .ok (.getfield 12, 3) := by decide +kernel
theorem dX11_image_8 : decode cX11_image 8 = .ok (.invokevirtual 279, 3) := by decide +kernel
theorem dX11_image_11 : decode cX11_image 11 = .ok (.aload_n 0, 1) := by decide +kernel
theorem dX11_image_12 : decode cX11_image 12 = .ok (.iconst 1, 1) := by decide +kernel
theorem dX11_image_13 : decode cX11_image 13 = .ok (.putfield 21, 3) := by decide +kernel
theorem dX11_image_16 : decode cX11_image 16 = .ok (.aload_n 0, 1) := by decide +kernel
theorem dX11_image_17 : decode cX11_image 17 = .ok (.getfield 12, 3) := by decide +kernel
theorem dX11_image_20 : decode cX11_image 20 = .ok (.getfield 143, 3) := by decide +kernel
theorem dX11_image_23 : decode cX11_image 23 = .ok (.ireturn, 1) := by decide +kernel
theorem dX11_undo_0 : decode cX11_undo 0 = .ok (.aload_n 0, 1) := by decide +kernel
theorem dX11_undo_1 : decode cX11_undo 1 = .ok (.getfield 21, 3) := by decide +kernel
theorem dX11_undo_4 : decode cX11_undo 4 = .ok (.ifCond .ne 6, 3) := by decide +kernel
theorem dX11_undo_7 : decode cX11_undo 7 = .ok (.bipush (-3), 2) := by decide +kernel
theorem dX11_undo_9 : decode cX11_undo 9 = .ok (.ireturn, 1) := by decide +kernel
theorem dX11_undo_10 : decode cX11_undo 10 = .ok (.aload_n 0, 1) := by decide +kernel
theorem dX11_undo_11 : decode cX11_undo 11 = .ok (.getfield 12, 3) := by decide +kernel
theorem dX11_undo_14 : decode cX11_undo 14 = .ok (.aload_n 0, 1) := by decide +kernel
theorem dX11_undo_15 : decode cX11_undo 15 = .ok (.getfield 18, 3) := by decide +kernel
theorem dX11_undo_18 : decode cX11_undo 18 = .ok (.invokevirtual 279, 3) := by decide +kernel
theorem dX11_undo_21 : decode cX11_undo 21 = .ok (.aload_n 0, 1) := by decide +kernel
theorem dX11_undo_22 : decode cX11_undo 22 = .ok (.getfield 12, 3) := by decide +kernel
theorem dX11_undo_25 : decode cX11_undo 25 = .ok (.getfield 143, 3) := by decide +kernel
theorem dX11_undo_28 : decode cX11_undo 28 = .ok (.ireturn, 1) := by decide +kernel
theorem dX11_count_0 : decode cX11_count 0 = .ok (.iload_n 1, 1) := by decide +kernel
theorem dX11_count_1 : decode cX11_count 1 = .ok (.tableswitch 98 0 6 #[43, 51, 59, 67, 75, 83, 91], 43) := by decide +kernel
theorem dX11_count_44 : decode cX11_count 44 = .ok (.aload_n 0, 1) := by decide +kernel
theorem dX11_count_45 : decode cX11_count 45 = .ok (.getfield 12, 3) := by decide +kernel
theorem dX11_count_48 : decode cX11_count 48 = .ok (.getfield 57, 3) := by decide +kernel
theorem dX11_count_51 : decode cX11_count 51 = .ok (.ireturn, 1) := by decide +kernel
theorem dX11_count_52 : decode cX11_count 52 = .ok (.aload_n 0, 1) := by decide +kernel
theorem dX11_count_53 : decode cX11_count 53 = .ok (.getfield 12, 3) := by decide +kernel
theorem dX11_count_56 : decode cX11_count 56 = .ok (.getfield 97, 3) := by decide +kernel
theorem dX11_count_59 : decode cX11_count 59 = .ok (.ireturn, 1) := by decide +kernel
theorem dX11_count_60 : decode cX11_count 60 = .ok (.aload_n 0, 1) := by decide +kernel
theorem dX11_count_61 : decode cX11_count 61 = .ok (.getfield 12, 3) := by decide +kernel
theorem dX11_count_64 : decode cX11_count 64 = .ok (.getfield 143, 3) := by decide +kernel
theorem dX11_count_67 : decode cX11_count 67 = .ok (.ireturn, 1) := by decide +kernel
theorem dX11_count_68 : decode cX11_count 68 = .ok (.aload_n 0, 1) := by decide +kernel
theorem dX11_count_69 : decode cX11_count 69 = .ok (.getfield 12, 3) := by decide +kernel
theorem dX11_count_72 : decode cX11_count 72 = .ok (.getfield 213, 3) := by decide +kernel
theorem dX11_count_75 : decode cX11_count 75 = .ok (.ireturn, 1) := by decide +kernel
theorem dX11_count_76 : decode cX11_count 76 = .ok (.aload_n 0, 1) := by decide +kernel
theorem dX11_count_77 : decode cX11_count 77 = .ok (.getfield 12, 3) := by decide +kernel
theorem dX11_count_80 : decode cX11_count 80 = .ok (.getfield 201, 3) := by decide +kernel
theorem dX11_count_83 : decode cX11_count 83 = .ok (.ireturn, 1) := by decide +kernel
theorem dX11_count_84 : decode cX11_count 84 = .ok (.aload_n 0, 1) := by decide +kernel
theorem dX11_count_85 : decode cX11_count 85 = .ok (.getfield 12, 3) := by decide +kernel
theorem dX11_count_88 : decode cX11_count 88 = .ok (.getfield 90, 3) := by decide +kernel
theorem dX11_count_91 : decode cX11_count 91 = .ok (.ireturn, 1) := by decide +kernel
theorem dX11_count_92 : decode cX11_count 92 = .ok (.aload_n 0, 1) := by decide +kernel
theorem dX11_count_93 : decode cX11_count 93 = .ok (.getfield 25, 3) := by decide +kernel
theorem dX11_count_96 : decode cX11_count 96 = .ok (.iconst 0, 1) := by decide +kernel
theorem dX11_count_97 : decode cX11_count 97 = .ok (.iaload, 1) := by decide +kernel
theorem dX11_count_98 : decode cX11_count 98 = .ok (.ireturn, 1) := by decide +kernel
theorem dX11_count_99 : decode cX11_count 99 = .ok (.iconst (-1), 1) := by decide +kernel
theorem dX11_count_100 : decode cX11_count 100 = .ok (.ireturn, 1) := by decide +kernel
theorem dX11_isName_0 : decode cX11_isName 0 = .ok (.iload_n 1, 1) := by decide +kernel
theorem dX11_isName_1 : decode cX11_isName 1 = .ok (.ifCond .lt 18, 3) := by decide +kernel
theorem dX11_isName_4 : decode cX11_isName 4 = .ok (.iload_n 1, 1) := by decide +kernel
theorem dX11_isName_5 : decode cX11_isName 5 = .ok (.aload_n 0, 1) := by decide +kernel
theorem dX11_isName_6 : decode cX11_isName 6 = .ok (.getfield 12, 3) := by decide +kernel
theorem dX11_isName_9 : decode cX11_isName 9 = .ok (.getfield 57, 3) := by decide +kernel
theorem dX11_isName_12 : decode cX11_isName 12 = .ok (.if_icmp .ge 7, 3) := by decide +kernel
theorem dX11_isName_15 : decode cX11_isName 15 = .ok (.iconst 1, 1) := by decide +kernel
theorem dX11_isName_16 : decode cX11_isName 16 = .ok (.goto 4, 3) := by decide +kernel
theorem dX11_isName_19 : decode cX11_isName 19 = .ok (.iconst 0, 1) := by decide +kernel
theorem dX11_isName_20 : decode cX11_isName 20 = .ok (.ireturn, 1) := by decide +kernel
theorem dX11_isRung_0 : decode cX11_isRung 0 = .ok (.iload_n 1, 1) := by decide +kernel
theorem dX11_isRung_1 : decode cX11_isRung 1 = .ok (.ifCond .lt 18, 3) := by decide +kernel
theorem dX11_isRung_4 : decode cX11_isRung 4 = .ok (.iload_n 1, 1) := by decide +kernel
theorem dX11_isRung_5 : decode cX11_isRung 5 = .ok (.aload_n 0, 1) := by decide +kernel
theorem dX11_isRung_6 : decode cX11_isRung 6 = .ok (.getfield 12, 3) := by decide +kernel
theorem dX11_isRung_9 : decode cX11_isRung 9 = .ok (.getfield 57, 3) := by decide +kernel
theorem dX11_isRung_12 : decode cX11_isRung 12 = .ok (.if_icmp .ge 7, 3) := by decide +kernel
theorem dX11_isRung_15 : decode cX11_isRung 15 = .ok (.iconst 1, 1) := by decide +kernel
theorem dX11_isRung_16 : decode cX11_isRung 16 = .ok (.goto 4, 3) := by decide +kernel
theorem dX11_isRung_19 : decode cX11_isRung 19 = .ok (.iconst 0, 1) := by decide +kernel
theorem dX11_isRung_20 : decode cX11_isRung 20 = .ok (.ireturn, 1) := by decide +kernel
theorem dX11_isKind_0 : decode cX11_isKind 0 = .ok (.iload_n 0, 1) := by decide +kernel
theorem dX11_isKind_1 : decode cX11_isKind 1 = .ok (.ifCond .lt 13, 3) := by decide +kernel
theorem dX11_isKind_4 : decode cX11_isKind 4 = .ok (.iload_n 0, 1) := by decide +kernel
theorem dX11_isKind_5 : decode cX11_isKind 5 = .ok (.bipush 6, 2) := by decide +kernel
theorem dX11_isKind_7 : decode cX11_isKind 7 = .ok (.if_icmp .gt 7, 3) := by decide +kernel
theorem dX11_isKind_10 : decode cX11_isKind 10 = .ok (.iconst 1, 1) := by decide +kernel
theorem dX11_isKind_11 : decode cX11_isKind 11 = .ok (.goto 4, 3) := by decide +kernel
theorem dX11_isKind_14 : decode cX11_isKind 14 = .ok (.iconst 0, 1) := by decide +kernel
theorem dX11_isKind_15 : decode cX11_isKind 15 = .ok (.ireturn, 1) := by decide +kernel
theorem dX11_isEither_0 : decode cX11_isEither 0 = .ok (.iload_n 0, 1) := by decide +kernel
theorem dX11_isEither_1 : decode cX11_isEither 1 = .ok (.ifCond .eq 8, 3) := by decide +kernel
theorem dX11_isEither_4 : decode cX11_isEither 4 = .ok (.iload_n 0, 1) := by decide +kernel
theorem dX11_isEither_5 : decode cX11_isEither 5 = .ok (.iconst 1, 1) := by decide +kernel
theorem dX11_isEither_6 : decode cX11_isEither 6 = .ok (.if_icmp .ne 7, 3) := by decide +kernel
theorem dX11_isEither_9 : decode cX11_isEither 9 = .ok (.iconst 1, 1) := by decide +kernel
theorem dX11_isEither_10 : decode cX11_isEither 10 = .ok (.goto 4, 3) := by decide +kernel
theorem dX11_isEither_13 : decode cX11_isEither 13 = .ok (.iconst 0, 1) := by decide +kernel
theorem dX11_isEither_14 : decode cX11_isEither 14 = .ok (.ireturn, 1) := by decide +kernel
theorem dX11_isDay_0 : decode cX11_isDay 0 = .ok (.iload_n 0, 1) := by decide +kernel
theorem dX11_isDay_1 : decode cX11_isDay 1 = .ok (.ifCond .lt 14, 3) := by decide +kernel
theorem dX11_isDay_4 : decode cX11_isDay 4 = .ok (.iload_n 0, 1) := by decide +kernel
theorem dX11_isDay_5 : decode cX11_isDay 5 = .ok (.sipush 999, 3) := by decide +kernel
theorem dX11_isDay_8 : decode cX11_isDay 8 = .ok (.if_icmp .gt 7, 3) := by decide +kernel
theorem dX11_isDay_11 : decode cX11_isDay 11 = .ok (.iconst 1, 1) := by decide +kernel
theorem dX11_isDay_12 : decode cX11_isDay 12 = .ok (.goto 4, 3) := by decide +kernel
theorem dX11_isDay_15 : decode cX11_isDay 15 = .ok (.iconst 0, 1) := by decide +kernel
theorem dX11_isDay_16 : decode cX11_isDay 16 = .ok (.ireturn, 1) := by decide +kernel
theorem dX11_isDaysOn_0 : decode cX11_isDaysOn 0 = .ok (.iload_n 0, 1) := by decide +kernel
theorem dX11_isDaysOn_1 : decode cX11_isDaysOn 1 = .ok (.ifCond .lt 13, 3) := by decide +kernel
theorem dX11_isDaysOn_4 : decode cX11_isDaysOn 4 = .ok (.iload_n 0, 1) := by decide +kernel
theorem dX11_isDaysOn_5 : decode cX11_isDaysOn 5 = .ok (.bipush 6, 2) := by decide +kernel
theorem dX11_isDaysOn_7 : decode cX11_isDaysOn 7 = .ok (.if_icmp .gt 7, 3) := by decide +kernel
theorem dX11_isDaysOn_10 : decode cX11_isDaysOn 10 = .ok (.iconst 1, 1) := by decide +kernel
theorem dX11_isDaysOn_11 : decode cX11_isDaysOn 11 = .ok (.goto 4, 3) := by decide +kernel
theorem dX11_isDaysOn_14 : decode cX11_isDaysOn 14 = .ok (.iconst 0, 1) := by decide +kernel
theorem dX11_isDaysOn_15 : decode cX11_isDaysOn 15 = .ok (.ireturn, 1) := by decide +kernel
theorem dX11_holds_0 : decode cX11_holds 0 = .ok (.iload_n 0, 1) := by decide +kernel
theorem dX11_holds_1 : decode cX11_holds 1 = .ok (.iload_n 1, 1) := by decide +kernel
theorem dX11_holds_2 : decode cX11_holds 2 = .ok (.ishr, 1) := by decide +kernel
theorem dX11_holds_3 : decode cX11_holds 3 = .ok (.iconst 1, 1) := by decide +kernel
theorem dX11_holds_4 : decode cX11_holds 4 = .ok (.iand, 1) := by decide +kernel
theorem dX11_holds_5 : decode cX11_holds 5 = .ok (.iconst 1, 1) := by decide +kernel
theorem dX11_holds_6 : decode cX11_holds 6 = .ok (.if_icmp .ne 7, 3) := by decide +kernel
theorem dX11_holds_9 : decode cX11_holds 9 = .ok (.iconst 1, 1) := by decide +kernel
theorem dX11_holds_10 : decode cX11_holds 10 = .ok (.goto 4, 3) := by decide +kernel
theorem dX11_holds_13 : decode cX11_holds 13 = .ok (.iconst 0, 1) := by decide +kernel
theorem dX11_holds_14 : decode cX11_holds 14 = .ok (.ireturn, 1) := by decide +kernel
theorem dX11_clubAt_0 : decode cX11_clubAt 0 = .ok (.iload_n 1, 1) := by decide +kernel
theorem dX11_clubAt_1 : decode cX11_clubAt 1 = .ok (.ifCond .lt 26, 3) := by decide +kernel
theorem dX11_clubAt_4 : decode cX11_clubAt 4 = .ok (.iload_n 1, 1) := by decide +kernel
theorem dX11_clubAt_5 : decode cX11_clubAt 5 = .ok (.aload_n 0, 1) := by decide +kernel
theorem dX11_clubAt_6 : decode cX11_clubAt 6 = .ok (.getfield 12, 3) := by decide +kernel
theorem dX11_clubAt_9 : decode cX11_clubAt 9 = .ok (.getfield 97, 3) := by decide +kernel
theorem dX11_clubAt_12 : decode cX11_clubAt 12 = .ok (.if_icmp .ge 15, 3) := by decide +kernel
theorem dX11_clubAt_15 : decode cX11_clubAt 15 = .ok (.aload_n 0, 1) := by decide +kernel
theorem dX11_clubAt_16 : decode cX11_clubAt 16 = .ok (.getfield 12, 3) := by decide +kernel
theorem dX11_clubAt_19 : decode cX11_clubAt 19 = .ok (.getfield 108, 3) := by decide +kernel
theorem dX11_clubAt_22 : decode cX11_clubAt 22 = .ok (.iload_n 1, 1) := by decide +kernel
theorem dX11_clubAt_23 : decode cX11_clubAt 23 = .ok (.aaload, 1) := by decide +kernel
theorem dX11_clubAt_24 : decode cX11_clubAt 24 = .ok (.goto 4, 3) := by decide +kernel
theorem dX11_clubAt_27 : decode cX11_clubAt 27 = .ok (.aconst_null, 1) := by decide +kernel
theorem dX11_clubAt_28 : decode cX11_clubAt 28 = .ok (.areturn, 1) := by decide +kernel
theorem dX11_whomToday_0 : decode cX11_whomToday 0 = .ok (.aload_n 0, 1) := by decide +kernel
theorem dX11_whomToday_1 : decode cX11_whomToday 1 = .ok (.getfield 12, 3) := by decide +kernel
theorem dX11_whomToday_4 : decode cX11_whomToday 4 = .ok (.aload_n 1, 1) := by decide +kernel
theorem dX11_whomToday_5 : decode cX11_whomToday 5 = .ok (.aload_n 0, 1) := by decide +kernel
theorem dX11_whomToday_6 : decode cX11_whomToday 6 = .ok (.getfield 12, 3) := by decide +kernel
theorem dX11_whomToday_9 : decode cX11_whomToday 9 = .ok (.getfield 61, 3) := by decide +kernel
theorem dX11_whomToday_12 : decode cX11_whomToday 12 = .ok (.aload_n 0, 1) := by decide +kernel
theorem dX11_whomToday_13 : decode cX11_whomToday 13 = .ok (.getfield 12, 3) := by decide +kernel
theorem dX11_whomToday_16 : decode cX11_whomToday 16 = .ok (.iload_n 2, 1) := by decide +kernel
theorem dX11_whomToday_17 : decode cX11_whomToday 17 = .ok (.invokevirtual 82, 3) := by decide +kernel
theorem dX11_whomToday_20 : decode cX11_whomToday 20 = .ok (.iload_n 3, 1) := by decide +kernel
theorem dX11_whomToday_21 : decode cX11_whomToday 21 = .ok (.iconst 0, 1) := by decide +kernel
theorem dX11_whomToday_22 : decode cX11_whomToday 22 = .ok (.invokevirtual 284, 3) := by decide +kernel
theorem dX11_whomToday_25 : decode cX11_whomToday 25 = .ok (.ireturn, 1) := by decide +kernel
theorem dX11_askedInWeek_0 : decode cX11_askedInWeek 0 = .ok (.aload_n 0, 1) := by decide +kernel
theorem dX11_askedInWeek_1 : decode cX11_askedInWeek 1 = .ok (.getfield 12, 3) := by decide +kernel
theorem dX11_askedInWeek_4 : decode cX11_askedInWeek 4 = .ok (.iload_n 2, 1) := by decide +kernel
theorem dX11_askedInWeek_5 : decode cX11_askedInWeek 5 = .ok (.invokevirtual 82, 3) := by decide +kernel
theorem dX11_askedInWeek_8 : decode cX11_askedInWeek 8 = .ok (.istore_n 3, 1) := by decide +kernel
theorem dX11_askedInWeek_9 : decode cX11_askedInWeek 9 = .ok (.iconst 0, 1) := by decide +kernel
theorem dX11_askedInWeek_10 : decode cX11_askedInWeek 10 = .ok (.istore 4, 2) := by decide +kernel
theorem dX11_askedInWeek_12 : decode cX11_askedInWeek 12 = .ok (.iconst 0, 1) := by decide +kernel
theorem dX11_askedInWeek_13 : decode cX11_askedInWeek 13 = .ok (.istore 5, 2) := by decide +kernel
theorem dX11_askedInWeek_15 : decode cX11_askedInWeek 15 = .ok (.iload 5, 2) := by decide +kernel
theorem dX11_askedInWeek_17 : decode cX11_askedInWeek 17 = .ok (.bipush 7, 2) := by decide +kernel
theorem dX11_askedInWeek_19 : decode cX11_askedInWeek 19 = .ok (.if_icmp .ge 46, 3) := by decide +kernel
theorem dX11_askedInWeek_22 : decode cX11_askedInWeek 22 = .ok (.aload_n 0, 1) := by decide +kernel
theorem dX11_askedInWeek_23 : decode cX11_askedInWeek 23 = .ok (.getfield 12, 3) := by decide +kernel
theorem dX11_askedInWeek_26 : decode cX11_askedInWeek 26 = .ok (.aload_n 1, 1) := by decide +kernel
theorem dX11_askedInWeek_27 : decode cX11_askedInWeek 27 = .ok (.aload_n 0, 1) := by decide +kernel
theorem dX11_askedInWeek_28 : decode cX11_askedInWeek 28 = .ok (.getfield 12, 3) := by decide +kernel
theorem dX11_askedInWeek_31 : decode cX11_askedInWeek 31 = .ok (.getfield 61, 3) := by decide +kernel
theorem dX11_askedInWeek_34 : decode cX11_askedInWeek 34 = .ok (.iload_n 3, 1) := by decide +kernel
theorem dX11_askedInWeek_35 : decode cX11_askedInWeek 35 = .ok (.iload 5, 2) := by decide +kernel
theorem dX11_askedInWeek_37 : decode cX11_askedInWeek 37 = .ok (.iconst 0, 1) := by decide +kernel
theorem dX11_askedInWeek_38 : decode cX11_askedInWeek 38 = .ok (.invokevirtual 284, 3) := by decide +kernel
theorem dX11_askedInWeek_41 : decode cX11_askedInWeek 41 = .ok (.istore 6, 2) := by decide +kernel
theorem dX11_askedInWeek_43 : decode cX11_askedInWeek 43 = .ok (.iload 6, 2) := by decide +kernel
theorem dX11_askedInWeek_45 : decode cX11_askedInWeek 45 = .ok (.bipush (-5), 2) := by decide +kernel
theorem dX11_askedInWeek_47 : decode cX11_askedInWeek 47 = .ok (.if_icmp .eq 12, 3) := by decide +kernel
theorem dX11_askedInWeek_50 : decode cX11_askedInWeek 50 = .ok (.iload 4, 2) := by decide +kernel
theorem dX11_askedInWeek_52 : decode cX11_askedInWeek 52 = .ok (.iconst 1, 1) := by decide +kernel
theorem dX11_askedInWeek_53 : decode cX11_askedInWeek 53 = .ok (.iload 6, 2) := by decide +kernel
theorem dX11_askedInWeek_55 : decode cX11_askedInWeek 55 = .ok (.ishl, 1) := by decide +kernel
theorem dX11_askedInWeek_56 : decode cX11_askedInWeek 56 = .ok (.ior, 1) := by decide +kernel
theorem dX11_askedInWeek_57 : decode cX11_askedInWeek 57 = .ok (.istore 4, 2) := by decide +kernel
theorem dX11_askedInWeek_59 : decode cX11_askedInWeek 59 = .ok (.iinc 5 1, 3) := by decide +kernel
theorem dX11_askedInWeek_62 : decode cX11_askedInWeek 62 = .ok (.goto (-47), 3) := by decide +kernel
theorem dX11_askedInWeek_65 : decode cX11_askedInWeek 65 = .ok (.iload 4, 2) := by decide +kernel
theorem dX11_askedInWeek_67 : decode cX11_askedInWeek 67 = .ok (.ireturn, 1) := by decide +kernel
theorem dX11_stuckBits_0 : decode cX11_stuckBits 0 = .ok (.iconst 0, 1) := by decide +kernel
theorem dX11_stuckBits_1 : decode cX11_stuckBits 1 = .ok (.istore_n 2, 1) := by decide +kernel
theorem dX11_stuckBits_2 : decode cX11_stuckBits 2 = .ok (.iconst 1, 1) := by decide +kernel
theorem dX11_stuckBits_3 : decode cX11_stuckBits 3 = .ok (.istore_n 3, 1) := by decide +kernel
theorem dX11_stuckBits_4 : decode cX11_stuckBits 4 = .ok (.iload_n 3, 1) := by decide +kernel
theorem dX11_stuckBits_5 : decode cX11_stuckBits 5 = .ok (.aload_n 0, 1) := by decide +kernel
theorem dX11_stuckBits_6 : decode cX11_stuckBits 6 = .ok (.getfield 12, 3) := by decide +kernel
theorem dX11_stuckBits_9 : decode cX11_stuckBits 9 = .ok (.getfield 57, 3) := by decide +kernel
theorem dX11_stuckBits_12 : decode cX11_stuckBits 12 = .ok (.if_icmp .ge 87, 3) := by decide +kernel
theorem dX11_stuckBits_15 : decode cX11_stuckBits 15 = .ok (.aload_n 0, 1) := by decide +kernel
theorem dX11_stuckBits_16 : decode cX11_stuckBits 16 = .ok (.getfield 12, 3) := by decide +kernel
theorem dX11_stuckBits_19 : decode cX11_stuckBits 19 = .ok (.getfield 61, 3) := by decide +kernel
theorem dX11_stuckBits_22 : decode cX11_stuckBits 22 = .ok (.iload_n 3, 1) := by decide +kernel
theorem dX11_stuckBits_23 : decode cX11_stuckBits 23 = .ok (.iaload, 1) := by decide +kernel
theorem dX11_stuckBits_24 : decode cX11_stuckBits 24 = .ok (.istore 4, 2) := by decide +kernel
theorem dX11_stuckBits_26 : decode cX11_stuckBits 26 = .ok (.aload_n 0, 1) := by decide +kernel
theorem dX11_stuckBits_27 : decode cX11_stuckBits 27 = .ok (.aload_n 1, 1) := by decide +kernel
theorem dX11_stuckBits_28 : decode cX11_stuckBits 28 = .ok (.iload 4, 2) := by decide +kernel
theorem dX11_stuckBits_30 : decode cX11_stuckBits 30 = .ok (.invokevirtual 288, 3) := by decide +kernel
theorem dX11_stuckBits_33 : decode cX11_stuckBits 33 = .ok (.istore 5, 2) := by decide +kernel
theorem dX11_stuckBits_35 : decode cX11_stuckBits 35 = .ok (.iconst 0, 1) := by decide +kernel
theorem dX11_stuckBits_36 : decode cX11_stuckBits 36 = .ok (.istore 6, 2) := by decide +kernel
theorem dX11_stuckBits_38 : decode cX11_stuckBits 38 = .ok (.iload 6, 2) := by decide +kernel
theorem dX11_stuckBits_40 : decode cX11_stuckBits 40 = .ok (.iload_n 3, 1) := by decide +kernel
theorem dX11_stuckBits_41 : decode cX11_stuckBits 41 = .ok (.if_icmp .ge 52, 3) := by decide +kernel
theorem dX11_stuckBits_44 : decode cX11_stuckBits 44 = .ok (.aload_n 0, 1) := by decide +kernel
theorem dX11_stuckBits_45 : decode cX11_stuckBits 45 = .ok (.getfield 12, 3) := by decide +kernel
theorem dX11_stuckBits_48 : decode cX11_stuckBits 48 = .ok (.getfield 61, 3) := by decide +kernel
theorem dX11_stuckBits_51 : decode cX11_stuckBits 51 = .ok (.iload 6, 2) := by decide +kernel
theorem dX11_stuckBits_53 : decode cX11_stuckBits 53 = .ok (.iaload, 1) := by decide +kernel
theorem dX11_stuckBits_54 : decode cX11_stuckBits 54 = .ok (.istore 7, 2) := by decide +kernel
theorem dX11_stuckBits_56 : decode cX11_stuckBits 56 = .ok (.aload_n 0, 1) := by decide +kernel
theorem dX11_stuckBits_57 : decode cX11_stuckBits 57 = .ok (.getfield 12, 3) := by decide +kernel
theorem dX11_stuckBits_60 : decode cX11_stuckBits 60 = .ok (.iload 4, 2) := by decide +kernel
theorem dX11_stuckBits_62 : decode cX11_stuckBits 62 = .ok (.iload 7, 2) := by decide +kernel
theorem dX11_stuckBits_64 : decode cX11_stuckBits 64 = .ok (.invokevirtual 292, 3) := by decide +kernel
theorem dX11_stuckBits_67 : decode cX11_stuckBits 67 = .ok (.ifCond .eq 20, 3) := by decide +kernel
theorem dX11_stuckBits_70 : decode cX11_stuckBits 70 = .ok (.iload 5, 2) := by decide +kernel
theorem dX11_stuckBits_72 : decode cX11_stuckBits 72 = .ok (.iload 7, 2) := by decide +kernel
theorem dX11_stuckBits_74 : decode cX11_stuckBits 74 = .ok (.invokestatic 146, 3) := by decide +kernel
theorem dX11_stuckBits_77 : decode cX11_stuckBits 77 = .ok (.ifCond .ne 10, 3) := by decide +kernel
theorem dX11_stuckBits_80 : decode cX11_stuckBits 80 = .ok (.iload_n 2, 1) := by decide +kernel
theorem dX11_stuckBits_81 : decode cX11_stuckBits 81 = .ok (.iconst 1, 1) := by decide +kernel
theorem dX11_stuckBits_82 : decode cX11_stuckBits 82 = .ok (.iload 4, 2) := by decide +kernel
theorem dX11_stuckBits_84 : decode cX11_stuckBits 84 = .ok (.ishl, 1) := by decide +kernel
theorem dX11_stuckBits_85 : decode cX11_stuckBits 85 = .ok (.ior, 1) := by decide +kernel
theorem dX11_stuckBits_86 : decode cX11_stuckBits 86 = .ok (.istore_n 2, 1) := by decide +kernel
theorem dX11_stuckBits_87 : decode cX11_stuckBits 87 = .ok (.iinc 6 1, 3) := by decide +kernel
theorem dX11_stuckBits_90 : decode cX11_stuckBits 90 = .ok (.goto (-52), 3) := by decide +kernel
theorem dX11_stuckBits_93 : decode cX11_stuckBits 93 = .ok (.iinc 3 1, 3) := by decide +kernel
theorem dX11_stuckBits_96 : decode cX11_stuckBits 96 = .ok (.goto (-92), 3) := by decide +kernel
theorem dX11_stuckBits_99 : decode cX11_stuckBits 99 = .ok (.iload_n 2, 1) := by decide +kernel
theorem dX11_stuckBits_100 : decode cX11_stuckBits 100 = .ok (.ireturn, 1) := by decide +kernel
theorem dX11_hangingBits_0 : decode cX11_hangingBits 0 = .ok (.iconst 0, 1) := by decide +kernel
theorem dX11_hangingBits_1 : decode cX11_hangingBits 1 = .ok (.istore_n 2, 1) := by decide +kernel
theorem dX11_hangingBits_2 : decode cX11_hangingBits 2 = .ok (.iconst 0, 1) := by decide +kernel
theorem dX11_hangingBits_3 : decode cX11_hangingBits 3 = .ok (.istore_n 3, 1) := by decide +kernel
theorem dX11_hangingBits_4 : decode cX11_hangingBits 4 = .ok (.iload_n 3, 1) := by decide +kernel
theorem dX11_hangingBits_5 : decode cX11_hangingBits 5 = .ok (.aload_n 0, 1) := by decide +kernel
theorem dX11_hangingBits_6 : decode cX11_hangingBits 6 = .ok (.getfield 12, 3) := by decide +kernel
theorem dX11_hangingBits_9 : decode cX11_hangingBits 9 = .ok (.getfield 57, 3) := by decide +kernel
theorem dX11_hangingBits_12 : decode cX11_hangingBits 12 = .ok (.if_icmp .ge 18, 3) := by decide +kernel
theorem dX11_hangingBits_15 : decode cX11_hangingBits 15 = .ok (.iload_n 2, 1) := by decide +kernel
theorem dX11_hangingBits_16 : decode cX11_hangingBits 16 = .ok (.aload_n 0, 1) := by decide +kernel
theorem dX11_hangingBits_17 : decode cX11_hangingBits 17 = .ok (.aload_n 1, 1) := by decide +kernel
theorem dX11_hangingBits_18 : decode cX11_hangingBits 18 = .ok (.iload_n 3, 1) := by decide +kernel
theorem dX11_hangingBits_19 : decode cX11_hangingBits 19 = .ok (.invokevirtual 288, 3) := by decide +kernel
theorem dX11_hangingBits_22 : decode cX11_hangingBits 22 = .ok (.ior, 1) := by decide +kernel
theorem dX11_hangingBits_23 : decode cX11_hangingBits 23 = .ok (.istore_n 2, 1) := by decide +kernel
theorem dX11_hangingBits_24 : decode cX11_hangingBits 24 = .ok (.iinc 3 1, 3) := by decide +kernel
theorem dX11_hangingBits_27 : decode cX11_hangingBits 27 = .ok (.goto (-23), 3) := by decide +kernel
theorem dX11_hangingBits_30 : decode cX11_hangingBits 30 = .ok (.iconst 0, 1) := by decide +kernel
theorem dX11_hangingBits_31 : decode cX11_hangingBits 31 = .ok (.istore_n 3, 1) := by decide +kernel
theorem dX11_hangingBits_32 : decode cX11_hangingBits 32 = .ok (.iconst 1, 1) := by decide +kernel
theorem dX11_hangingBits_33 : decode cX11_hangingBits 33 = .ok (.istore 4, 2) := by decide +kernel
theorem dX11_hangingBits_35 : decode cX11_hangingBits 35 = .ok (.iload 4, 2) := by decide +kernel
theorem dX11_hangingBits_37 : decode cX11_hangingBits 37 = .ok (.aload_n 0, 1) := by decide +kernel
theorem dX11_hangingBits_38 : decode cX11_hangingBits 38 = .ok (.getfield 12, 3) := by decide +kernel
theorem dX11_hangingBits_41 : decode cX11_hangingBits 41 = .ok (.getfield 57, 3) := by decide +kernel
theorem dX11_hangingBits_44 : decode cX11_hangingBits 44 = .ok (.if_icmp .ge 75, 3) := by decide +kernel
theorem dX11_hangingBits_47 : decode cX11_hangingBits 47 = .ok (.iconst 0, 1) := by decide +kernel
theorem dX11_hangingBits_48 : decode cX11_hangingBits 48 = .ok (.istore 5, 2) := by decide +kernel
theorem dX11_hangingBits_50 : decode cX11_hangingBits 50 = .ok (.iload 5, 2) := by decide +kernel
theorem dX11_hangingBits_52 : decode cX11_hangingBits 52 = .ok (.iload 4, 2) := by decide +kernel
theorem dX11_hangingBits_54 : decode cX11_hangingBits 54 = .ok (.if_icmp .ge 59, 3) := by decide +kernel
theorem dX11_hangingBits_57 : decode cX11_hangingBits 57 = .ok (.aload_n 0, 1) := by decide +kernel
theorem dX11_hangingBits_58 : decode cX11_hangingBits 58 = .ok (.getfield 12, 3) := by decide +kernel
theorem dX11_hangingBits_61 : decode cX11_hangingBits 61 = .ok (.getfield 61, 3) := by decide +kernel
theorem dX11_hangingBits_64 : decode cX11_hangingBits 64 = .ok (.iload 5, 2) := by decide +kernel
theorem dX11_hangingBits_66 : decode cX11_hangingBits 66 = .ok (.iaload, 1) := by decide +kernel
theorem dX11_hangingBits_67 : decode cX11_hangingBits 67 = .ok (.istore 6, 2) := by decide +kernel
theorem dX11_hangingBits_69 : decode cX11_hangingBits 69 = .ok (.aload_n 0, 1) := by decide +kernel
theorem dX11_hangingBits_70 : decode cX11_hangingBits 70 = .ok (.getfield 12, 3) := by decide +kernel
theorem dX11_hangingBits_73 : decode cX11_hangingBits 73 = .ok (.aload_n 0, 1) := by decide +kernel
theorem dX11_hangingBits_74 : decode cX11_hangingBits 74 = .ok (.getfield 12, 3) := by decide +kernel
theorem dX11_hangingBits_77 : decode cX11_hangingBits 77 = .ok (.getfield 61, 3) := by decide +kernel
theorem dX11_hangingBits_80 : decode cX11_hangingBits 80 = .ok (.iload 4, 2) := by decide +kernel
theorem dX11_hangingBits_82 : decode cX11_hangingBits 82 = .ok (.iaload, 1) := by decide +kernel
theorem dX11_hangingBits_83 : decode cX11_hangingBits 83 = .ok (.iload 6, 2) := by decide +kernel
theorem dX11_hangingBits_85 : decode cX11_hangingBits 85 = .ok (.invokevirtual 292, 3) := by decide +kernel
theorem dX11_hangingBits_88 : decode cX11_hangingBits 88 = .ok (.ifCond .eq 19, 3) := by decide +kernel
theorem dX11_hangingBits_91 : decode cX11_hangingBits 91 = .ok (.iload_n 2, 1) := by decide +kernel
theorem dX11_hangingBits_92 : decode cX11_hangingBits 92 = .ok (.iload 6, 2) := by decide +kernel
theorem dX11_hangingBits_94 : decode cX11_hangingBits 94 = .ok (.invokestatic 146, 3) := by decide +kernel
theorem dX11_hangingBits_97 : decode cX11_hangingBits 97 = .ok (.ifCond .ne 10, 3) := by decide +kernel
theorem dX11_hangingBits_100 : decode cX11_hangingBits 100 = .ok (.iload_n 3, 1) := by decide +kernel
theorem dX11_hangingBits_101 : decode cX11_hangingBits 101 = .ok (.iconst 1, 1) := by decide +kernel
theorem dX11_hangingBits_102 : decode cX11_hangingBits 102 = .ok (.iload 6, 2) := by decide +kernel
theorem dX11_hangingBits_104 : decode cX11_hangingBits 104 = .ok (.ishl, 1) := by decide +kernel
theorem dX11_hangingBits_105 : decode cX11_hangingBits 105 = .ok (.ior, 1) := by decide +kernel
theorem dX11_hangingBits_106 : decode cX11_hangingBits 106 = .ok (.istore_n 3, 1) := by decide +kernel
theorem dX11_hangingBits_107 : decode cX11_hangingBits 107 = .ok (.iinc 5 1, 3) := by decide +kernel
theorem dX11_hangingBits_110 : decode cX11_hangingBits 110 = .ok (.goto (-60), 3) := by decide +kernel
theorem dX11_hangingBits_113 : decode cX11_hangingBits 113 = .ok (.iinc 4 1, 3) := by decide +kernel
theorem dX11_hangingBits_116 : decode cX11_hangingBits 116 = .ok (.goto (-81), 3) := by decide +kernel
theorem dX11_hangingBits_119 : decode cX11_hangingBits 119 = .ok (.iload_n 3, 1) := by decide +kernel
theorem dX11_hangingBits_120 : decode cX11_hangingBits 120 = .ok (.ireturn, 1) := by decide +kernel
theorem dX11_runToday_0 : decode cX11_runToday 0 = .ok (.aload_n 0, 1) := by decide +kernel
theorem dX11_runToday_1 : decode cX11_runToday 1 = .ok (.getfield 12, 3) := by decide +kernel
theorem dX11_runToday_4 : decode cX11_runToday 4 = .ok (.getfield 57, 3) := by decide +kernel
theorem dX11_runToday_7 : decode cX11_runToday 7 = .ok (.ifCond .ne 4, 3) := by decide +kernel
theorem dX11_runToday_10 : decode cX11_runToday 10 = .ok (.return_, 1) := by decide +kernel
theorem dX11_runToday_11 : decode cX11_runToday 11 = .ok (.aload_n 0, 1) := by decide +kernel
theorem dX11_runToday_12 : decode cX11_runToday 12 = .ok (.getfield 12, 3) := by decide +kernel
theorem dX11_runToday_15 : decode cX11_runToday 15 = .ok (.aload_n 0, 1) := by decide +kernel
theorem dX11_runToday_16 : decode cX11_runToday 16 = .ok (.getfield 12, 3) := by decide +kernel
theorem dX11_runToday_19 : decode cX11_runToday 19 = .ok (.getfield 143, 3) := by decide +kernel
theorem dX11_runToday_22 : decode cX11_runToday 22 = .ok (.invokevirtual 194, 3) := by decide +kernel
theorem dX11_runToday_25 : decode cX11_runToday 25 = .ok (.istore_n 3, 1) := by decide +kernel
theorem dX11_runToday_26 : decode cX11_runToday 26 = .ok (.aload_n 0, 1) := by decide +kernel
theorem dX11_runToday_27 : decode cX11_runToday 27 = .ok (.getfield 12, 3) := by decide +kernel
theorem dX11_runToday_30 : decode cX11_runToday 30 = .ok (.getfield 61, 3) := by decide +kernel
theorem dX11_runToday_33 : decode cX11_runToday 33 = .ok (.iload_n 3, 1) := by decide +kernel
theorem dX11_runToday_34 : decode cX11_runToday 34 = .ok (.iaload, 1) := by decide +kernel
theorem dX11_runToday_35 : decode cX11_runToday 35 = .ok (.istore 4, 2) := by decide +kernel
theorem dX11_runToday_37 : decode cX11_runToday 37 = .ok (.aload_n 0, 1) := by decide +kernel
theorem dX11_runToday_38 : decode cX11_runToday 38 = .ok (.getfield 12, 3) := by decide +kernel
theorem dX11_runToday_41 : decode cX11_runToday 41 = .ok (.aload_n 1, 1) := by decide +kernel
theorem dX11_runToday_42 : decode cX11_runToday 42 = .ok (.aload_n 0, 1) := by decide +kernel
theorem dX11_runToday_43 : decode cX11_runToday 43 = .ok (.getfield 12, 3) := by decide +kernel
theorem dX11_runToday_46 : decode cX11_runToday 46 = .ok (.getfield 61, 3) := by decide +kernel
theorem dX11_runToday_49 : decode cX11_runToday 49 = .ok (.iload_n 3, 1) := by decide +kernel
theorem dX11_runToday_50 : decode cX11_runToday 50 = .ok (.aload_n 0, 1) := by decide +kernel
theorem dX11_runToday_51 : decode cX11_runToday 51 = .ok (.getfield 12, 3) := by decide +kernel
theorem dX11_runToday_54 : decode cX11_runToday 54 = .ok (.getfield 143, 3) := by decide +kernel
theorem dX11_runToday_57 : decode cX11_runToday 57 = .ok (.iconst 0, 1) := by decide +kernel
theorem dX11_runToday_58 : decode cX11_runToday 58 = .ok (.invokevirtual 284, 3) := by decide +kernel
theorem dX11_runToday_61 : decode cX11_runToday 61 = .ok (.istore 5, 2) := by decide +kernel
theorem dX11_runToday_63 : decode cX11_runToday 63 = .ok (.iload 5, 2) := by decide +kernel
theorem dX11_runToday_65 : decode cX11_runToday 65 = .ok (.bipush (-5), 2) := by decide +kernel
theorem dX11_runToday_67 : decode cX11_runToday 67 = .ok (.if_icmp .eq 61, 3) := by decide +kernel
theorem dX11_runToday_70 : decode cX11_runToday 70 = .ok (.iload_n 2, 1) := by decide +kernel
theorem dX11_runToday_71 : decode cX11_runToday 71 = .ok (.bipush 31, 2) := by decide +kernel
theorem dX11_runToday_73 : decode cX11_runToday 73 = .ok (.imul, 1) := by decide +kernel
theorem dX11_runToday_74 : decode cX11_runToday 74 = .ok (.aload_n 0, 1) := by decide +kernel
theorem dX11_runToday_75 : decode cX11_runToday 75 = .ok (.getfield 12, 3) := by decide +kernel
theorem dX11_runToday_78 : decode cX11_runToday 78 = .ok (.getfield 143, 3) := by decide +kernel
theorem dX11_runToday_81 : decode cX11_runToday 81 = .ok (.bipush 17, 2) := by decide +kernel
theorem dX11_runToday_83 : decode cX11_runToday 83 = .ok (.imul, 1) := by decide +kernel
theorem dX11_runToday_84 : decode cX11_runToday 84 = .ok (.iadd, 1) := by decide +kernel
theorem dX11_runToday_85 : decode cX11_runToday 85 = .ok (.bipush 7, 2) := by decide +kernel
theorem dX11_runToday_87 : decode cX11_runToday 87 = .ok (.imul, 1) := by decide +kernel
theorem dX11_runToday_88 : decode cX11_runToday 88 = .ok (.bipush 100, 2) := by decide +kernel
theorem dX11_runToday_90 : decode cX11_runToday 90 = .ok (.irem, 1) := by decide +kernel
theorem dX11_runToday_91 : decode cX11_runToday 91 = .ok (.aload_n 0, 1) := by decide +kernel
theorem dX11_runToday_92 : decode cX11_runToday 92 = .ok (.getfield 12, 3) := by decide +kernel
theorem dX11_runToday_95 : decode cX11_runToday 95 = .ok (.getfield 68, 3) := by decide +kernel
theorem dX11_runToday_98 : decode cX11_runToday 98 = .ok (.iload 4, 2) := by decide +kernel
theorem dX11_runToday_100 : decode cX11_runToday 100 = .ok (.aaload, 1) := by decide +kernel
theorem dX11_runToday_101 : decode cX11_runToday 101 = .ok (.iload 5, 2) := by decide +kernel
theorem dX11_runToday_103 : decode cX11_runToday 103 = .ok (.iaload, 1) := by decide +kernel
theorem dX11_runToday_104 : decode cX11_runToday 104 = .ok (.if_icmp .ge 24, 3) := by decide +kernel
theorem dX11_runToday_107 : decode cX11_runToday 107 = .ok (.aload_n 1, 1) := by decide +kernel
theorem dX11_runToday_108 : decode cX11_runToday 108 = .ok (.aload_n 0, 1) := by decide +kernel
theorem dX11_runToday_109 : decode cX11_runToday 109 = .ok (.getfield 12, 3) := by decide +kernel
theorem dX11_runToday_112 : decode cX11_runToday 112 = .ok (.getfield 61, 3) := by decide +kernel
theorem dX11_runToday_115 : decode cX11_runToday 115 = .ok (.iload_n 3, 1) := by decide +kernel
theorem dX11_runToday_116 : decode cX11_runToday 116 = .ok (.aload_n 0, 1) := by decide +kernel
theorem dX11_runToday_117 : decode cX11_runToday 117 = .ok (.getfield 12, 3) := by decide +kernel
theorem dX11_runToday_120 : decode cX11_runToday 120 = .ok (.iload 5, 2) := by decide +kernel
theorem dX11_runToday_122 : decode cX11_runToday 122 = .ok (.invokevirtual 82, 3) := by decide +kernel
theorem dX11_runToday_125 : decode cX11_runToday 125 = .ok (.invokevirtual 150, 3) := by decide +kernel
theorem dX11_runToday_128 : decode cX11_runToday 128 = .ok (.return_, 1) := by decide +kernel
theorem dX11_goBehind_0 : decode cX11_goBehind 0 = .ok (.aload_n 0, 1) := by decide +kernel
theorem dX11_goBehind_1 : decode cX11_goBehind 1 = .ok (.getfield 41, 3) := by decide +kernel
theorem dX11_goBehind_4 : decode cX11_goBehind 4 = .ok (.aload_n 3, 1) := by decide +kernel
theorem dX11_goBehind_5 : decode cX11_goBehind 5 = .ok (.invokevirtual 295, 3) := by decide +kernel
theorem dX11_goBehind_8 : decode cX11_goBehind 8 = .ok (.iconst 0, 1) := by decide +kernel
theorem dX11_goBehind_9 : decode cX11_goBehind 9 = .ok (.istore 5, 2) := by decide +kernel
theorem dX11_goBehind_11 : decode cX11_goBehind 11 = .ok (.iload 5, 2) := by decide +kernel
theorem dX11_goBehind_13 : decode cX11_goBehind 13 = .ok (.iload_n 2, 1) := by decide +kernel
theorem dX11_goBehind_14 : decode cX11_goBehind 14 = .ok (.if_icmp .ge 29, 3) := by decide +kernel
theorem dX11_goBehind_17 : decode cX11_goBehind 17 = .ok (.aload_n 0, 1) := by decide +kernel
theorem dX11_goBehind_18 : decode cX11_goBehind 18 = .ok (.getfield 41, 3) := by decide +kernel
theorem dX11_goBehind_21 : decode cX11_goBehind 21 = .ok (.aload_n 1, 1) := by decide +kernel
theorem dX11_goBehind_22 : decode cX11_goBehind 22 = .ok (.aload_n 0, 1) := by decide +kernel
theorem dX11_goBehind_23 : decode cX11_goBehind 23 = .ok (.getfield 12, 3) := by decide +kernel
theorem dX11_goBehind_26 : decode cX11_goBehind 26 = .ok (.getfield 143, 3) := by decide +kernel
theorem dX11_goBehind_29 : decode cX11_goBehind 29 = .ok (.iload 5, 2) := by decide +kernel
theorem dX11_goBehind_31 : decode cX11_goBehind 31 = .ok (.iadd, 1) := by decide +kernel
theorem dX11_goBehind_32 : decode cX11_goBehind 32 = .ok (.iload 4, 2) := by decide +kernel
theorem dX11_goBehind_34 : decode cX11_goBehind 34 = .ok (.invokevirtual 298, 3) := by decide +kernel
theorem dX11_goBehind_37 : decode cX11_goBehind 37 = .ok (.iinc 5 1, 3) := by decide +kernel
theorem dX11_goBehind_40 : decode cX11_goBehind 40 = .ok (.goto (-29), 3) := by decide +kernel
theorem dX11_goBehind_43 : decode cX11_goBehind 43 = .ok (.return_, 1) := by decide +kernel
theorem dX11_rungsHavingAsked_0 : decode cX11_rungsHavingAsked 0 = .ok (.aload_n 0, 1) := by decide +kernel
theorem dX11_rungsHavingAsked_1 : decode cX11_rungsHavingAsked 1 = .ok (.getfield 41, 3) := by decide +kernel
theorem dX11_rungsHavingAsked_4 : decode cX11_rungsHavingAsked 4 = .ok (.aload_n 0, 1) := by decide +kernel
theorem dX11_rungsHavingAsked_5 : decode cX11_rungsHavingAsked 5 = .ok (.getfield 12, 3) := by decide +kernel
theorem dX11_rungsHavingAsked_8 : decode cX11_rungsHavingAsked 8 = .ok (.getfield 61, 3) := by decide +kernel
theorem dX11_rungsHavingAsked_11 : decode cX11_rungsHavingAsked 11 = .ok (.invokevirtual 295, 3) := by decide +kernel
theorem dX11_rungsHavingAsked_14 : decode cX11_rungsHavingAsked 14 = .ok (.aload_n 0, 1) := by decide +kernel
theorem dX11_rungsHavingAsked_15 : decode cX11_rungsHavingAsked 15 = .ok (.getfield 41, 3) := by decide +kernel
theorem dX11_rungsHavingAsked_18 : decode cX11_rungsHavingAsked 18 = .ok (.aload_n 1, 1) := by decide +kernel
theorem dX11_rungsHavingAsked_19 : decode cX11_rungsHavingAsked 19 = .ok (.aload_n 0, 1) := by decide +kernel
theorem dX11_rungsHavingAsked_20 : decode cX11_rungsHavingAsked 20 = .ok (.getfield 12, 3) := by decide +kernel
theorem dX11_rungsHavingAsked_23 : decode cX11_rungsHavingAsked 23 = .ok (.getfield 143, 3) := by decide +kernel
theorem dX11_rungsHavingAsked_26 : decode cX11_rungsHavingAsked 26 = .ok (.iload 4, 2) := by decide +kernel
theorem dX11_rungsHavingAsked_28 : decode cX11_rungsHavingAsked 28 = .ok (.invokevirtual 302, 3) := by decide +kernel
theorem dX11_rungsHavingAsked_31 : decode cX11_rungsHavingAsked 31 = .ok (.iconst 1, 1) := by decide +kernel
theorem dX11_rungsHavingAsked_32 : decode cX11_rungsHavingAsked 32 = .ok (.istore 5, 2) := by decide +kernel
theorem dX11_rungsHavingAsked_34 : decode cX11_rungsHavingAsked 34 = .ok (.iload 5, 2) := by decide +kernel
theorem dX11_rungsHavingAsked_36 : decode cX11_rungsHavingAsked 36 = .ok (.iload_n 2, 1) := by decide +kernel
theorem dX11_rungsHavingAsked_37 : decode cX11_rungsHavingAsked 37 = .ok (.if_icmp .ge 28, 3) := by decide +kernel
theorem dX11_rungsHavingAsked_40 : decode cX11_rungsHavingAsked 40 = .ok (.aload_n 0, 1) := by decide +kernel
theorem dX11_rungsHavingAsked_41 : decode cX11_rungsHavingAsked 41 = .ok (.getfield 41, 3) := by decide +kernel
theorem dX11_rungsHavingAsked_44 : decode cX11_rungsHavingAsked 44 = .ok (.aload_n 1, 1) := by decide +kernel
theorem dX11_rungsHavingAsked_45 : decode cX11_rungsHavingAsked 45 = .ok (.aload_n 0, 1) := by decide +kernel
theorem dX11_rungsHavingAsked_46 : decode cX11_rungsHavingAsked 46 = .ok (.getfield 12, 3) := by decide +kernel
theorem dX11_rungsHavingAsked_49 : decode cX11_rungsHavingAsked 49 = .ok (.getfield 143, 3) := by decide +kernel
theorem dX11_rungsHavingAsked_52 : decode cX11_rungsHavingAsked 52 = .ok (.iload 5, 2) := by decide +kernel
theorem dX11_rungsHavingAsked_54 : decode cX11_rungsHavingAsked 54 = .ok (.iadd, 1) := by decide +kernel
theorem dX11_rungsHavingAsked_55 : decode cX11_rungsHavingAsked 55 = .ok (.iconst 0, 1) := by decide +kernel
theorem dX11_rungsHavingAsked_56 : decode cX11_rungsHavingAsked 56 = .ok (.invokevirtual 298, 3) := by decide +kernel
theorem dX11_rungsHavingAsked_59 : decode cX11_rungsHavingAsked 59 = .ok (.iinc 5 1, 3) := by decide +kernel
theorem dX11_rungsHavingAsked_62 : decode cX11_rungsHavingAsked 62 = .ok (.goto (-28), 3) := by decide +kernel
theorem dX11_rungsHavingAsked_65 : decode cX11_rungsHavingAsked 65 = .ok (.aload_n 0, 1) := by decide +kernel
theorem dX11_rungsHavingAsked_66 : decode cX11_rungsHavingAsked 66 = .ok (.getfield 41, 3) := by decide +kernel
theorem dX11_rungsHavingAsked_69 : decode cX11_rungsHavingAsked 69 = .ok (.iload_n 3, 1) := by decide +kernel
theorem dX11_rungsHavingAsked_70 : decode cX11_rungsHavingAsked 70 = .ok (.invokevirtual 183, 3) := by decide +kernel
theorem dX11_rungsHavingAsked_73 : decode cX11_rungsHavingAsked 73 = .ok (.lreturn, 1) := by decide +kernel
theorem dX11_partOf_0 : decode cX11_partOf 0 = .ok (.lload_n 0, 1) := by decide +kernel
theorem dX11_partOf_1 : decode cX11_partOf 1 = .ok (.invokestatic 305, 3) := by decide +kernel
theorem dX11_partOf_4 : decode cX11_partOf 4 = .ok (.lload_n 2, 1) := by decide +kernel
theorem dX11_partOf_5 : decode cX11_partOf 5 = .ok (.invokestatic 311, 3) := by decide +kernel
theorem dX11_partOf_8 : decode cX11_partOf 8 = .ok (.lstore 5, 2) := by decide +kernel
theorem dX11_partOf_10 : decode cX11_partOf 10 = .ok (.lload 5, 2) := by decide +kernel
theorem dX11_partOf_12 : decode cX11_partOf 12 = .ok (.lconst 0, 1) := by decide +kernel
theorem dX11_partOf_13 : decode cX11_partOf 13 = .ok (.lcmp, 1) := by decide +kernel
theorem dX11_partOf_14 : decode cX11_partOf 14 = .ok (.ifCond .ne 7, 3) := by decide +kernel
theorem dX11_partOf_17 : decode cX11_partOf 17 = .ok (.ldc2_w 158, 3) := by decide +kernel
theorem dX11_partOf_20 : decode cX11_partOf 20 = .ok (.lreturn, 1) := by decide +kernel
theorem dX11_partOf_21 : decode cX11_partOf 21 = .ok (.iload 4, 2) := by decide +kernel
theorem dX11_partOf_23 : decode cX11_partOf 23 = .ok (.ifCond .ne 7, 3) := by decide +kernel
theorem dX11_partOf_26 : decode cX11_partOf 26 = .ok (.lload_n 0, 1) := by decide +kernel
theorem dX11_partOf_27 : decode cX11_partOf 27 = .ok (.goto 4, 3) := by decide +kernel
theorem dX11_partOf_30 : decode cX11_partOf 30 = .ok (.lload_n 2, 1) := by decide +kernel
theorem dX11_partOf_31 : decode cX11_partOf 31 = .ok (.lload 5, 2) := by decide +kernel
theorem dX11_partOf_33 : decode cX11_partOf 33 = .ok (.ldiv, 1) := by decide +kernel
theorem dX11_partOf_34 : decode cX11_partOf 34 = .ok (.lreturn, 1) := by decide +kernel
theorem dX11_commonDivisor_0 : decode cX11_commonDivisor 0 = .ok (.iconst 0, 1) := by decide +kernel
theorem dX11_commonDivisor_1 : decode cX11_commonDivisor 1 = .ok (.istore 4, 2) := by decide +kernel
theorem dX11_commonDivisor_3 : decode cX11_commonDivisor 3 = .ok (.iload 4, 2) := by decide +kernel
theorem dX11_commonDivisor_5 : decode cX11_commonDivisor 5 = .ok (.sipush 200, 3) := by decide +kernel
theorem dX11_commonDivisor_8 : decode cX11_commonDivisor 8 = .ok (.if_icmp .ge 25, 3) := by decide +kernel
theorem dX11_commonDivisor_11 : decode cX11_commonDivisor 11 = .ok (.lload_n 2, 1) := by decide +kernel
theorem dX11_commonDivisor_12 : decode cX11_commonDivisor 12 = .ok (.lconst 0, 1) := by decide +kernel
theorem dX11_commonDivisor_13 : decode cX11_commonDivisor 13 = .ok (.lcmp, 1) := by decide +kernel
theorem dX11_commonDivisor_14 : decode cX11_commonDivisor 14 = .ok (.ifCond .eq 19, 3) := by decide +kernel
theorem dX11_commonDivisor_17 : decode cX11_commonDivisor 17 = .ok (.lload_n 0, 1) := by decide +kernel
theorem dX11_commonDivisor_18 : decode cX11_commonDivisor 18 = .ok (.lload_n 2, 1) := by decide +kernel
theorem dX11_commonDivisor_19 : decode cX11_commonDivisor 19 = .ok (.lrem, 1) := by decide +kernel
theorem dX11_commonDivisor_20 : decode cX11_commonDivisor 20 = .ok (.lstore 5, 2) := by decide +kernel
theorem dX11_commonDivisor_22 : decode cX11_commonDivisor 22 = .ok (.lload_n 2, 1) := by decide +kernel
theorem dX11_commonDivisor_23 : decode cX11_commonDivisor 23 = .ok (.lstore_n 0, 1) := by decide +kernel
theorem dX11_commonDivisor_24 : decode cX11_commonDivisor 24 = .ok (.lload 5, 2) := by decide +kernel
theorem dX11_commonDivisor_26 : decode cX11_commonDivisor 26 = .ok (.lstore_n 2, 1) := by decide +kernel
theorem dX11_commonDivisor_27 : decode cX11_commonDivisor 27 = .ok (.iinc 4 1, 3) := by decide +kernel
theorem dX11_commonDivisor_30 : decode cX11_commonDivisor 30 = .ok (.goto (-27), 3) := by decide +kernel
theorem dX11_commonDivisor_33 : decode cX11_commonDivisor 33 = .ok (.lload_n 0, 1) := by decide +kernel
theorem dX11_commonDivisor_34 : decode cX11_commonDivisor 34 = .ok (.lreturn, 1) := by decide +kernel
theorem dX11_move_0 : decode cX11_move 0 = .ok (.aload_n 0, 1) := by decide +kernel
theorem dX11_move_1 : decode cX11_move 1 = .ok (.iload_n 1, 1) := by decide +kernel
theorem dX11_move_2 : decode cX11_move 2 = .ok (.iaload, 1) := by decide +kernel
theorem dX11_move_3 : decode cX11_move 3 = .ok (.istore_n 3, 1) := by decide +kernel
theorem dX11_move_4 : decode cX11_move 4 = .ok (.iload_n 1, 1) := by decide +kernel
theorem dX11_move_5 : decode cX11_move 5 = .ok (.istore 4, 2) := by decide +kernel
theorem dX11_move_7 : decode cX11_move 7 = .ok (.iload 4, 2) := by decide +kernel
theorem dX11_move_9 : decode cX11_move 9 = .ok (.iload_n 2, 1) := by decide +kernel
theorem dX11_move_10 : decode cX11_move 10 = .ok (.if_icmp .le 19, 3) := by decide +kernel
theorem dX11_move_13 : decode cX11_move 13 = .ok (.aload_n 0, 1) := by decide +kernel
theorem dX11_move_14 : decode cX11_move 14 = .ok (.iload 4, 2) := by decide +kernel
theorem dX11_move_16 : decode cX11_move 16 = .ok (.aload_n 0, 1) := by decide +kernel
theorem dX11_move_17 : decode cX11_move 17 = .ok (.iload 4, 2) := by decide +kernel
theorem dX11_move_19 : decode cX11_move 19 = .ok (.iconst 1, 1) := by decide +kernel
theorem dX11_move_20 : decode cX11_move 20 = .ok (.isub, 1) := by decide +kernel
theorem dX11_move_21 : decode cX11_move 21 = .ok (.iaload, 1) := by decide +kernel
theorem dX11_move_22 : decode cX11_move 22 = .ok (.iastore, 1) := by decide +kernel
theorem dX11_move_23 : decode cX11_move 23 = .ok (.iinc 4 (-1), 3) := by decide +kernel
theorem dX11_move_26 : decode cX11_move 26 = .ok (.goto (-19), 3) := by decide +kernel
theorem dX11_move_29 : decode cX11_move 29 = .ok (.iload_n 1, 1) := by decide +kernel
theorem dX11_move_30 : decode cX11_move 30 = .ok (.istore 4, 2) := by decide +kernel
theorem dX11_move_32 : decode cX11_move 32 = .ok (.iload 4, 2) := by decide +kernel
theorem dX11_move_34 : decode cX11_move 34 = .ok (.iload_n 2, 1) := by decide +kernel
theorem dX11_move_35 : decode cX11_move 35 = .ok (.if_icmp .ge 19, 3) := by decide +kernel
theorem dX11_move_38 : decode cX11_move 38 = .ok (.aload_n 0, 1) := by decide +kernel
theorem dX11_move_39 : decode cX11_move 39 = .ok (.iload 4, 2) := by decide +kernel
theorem dX11_move_41 : decode cX11_move 41 = .ok (.aload_n 0, 1) := by decide +kernel
theorem dX11_move_42 : decode cX11_move 42 = .ok (.iload 4, 2) := by decide +kernel
theorem dX11_move_44 : decode cX11_move 44 = .ok (.iconst 1, 1) := by decide +kernel
theorem dX11_move_45 : decode cX11_move 45 = .ok (.iadd, 1) := by decide +kernel
theorem dX11_move_46 : decode cX11_move 46 = .ok (.iaload, 1) := by decide +kernel
theorem dX11_move_47 : decode cX11_move 47 = .ok (.iastore, 1) := by decide +kernel
theorem dX11_move_48 : decode cX11_move 48 = .ok (.iinc 4 1, 3) := by decide +kernel
theorem dX11_move_51 : decode cX11_move 51 = .ok (.goto (-19), 3) := by decide +kernel
theorem dX11_move_54 : decode cX11_move 54 = .ok (.aload_n 0, 1) := by decide +kernel
theorem dX11_move_55 : decode cX11_move 55 = .ok (.iload_n 2, 1) := by decide +kernel
theorem dX11_move_56 : decode cX11_move 56 = .ok (.iload_n 3, 1) := by decide +kernel
theorem dX11_move_57 : decode cX11_move 57 = .ok (.iastore, 1) := by decide +kernel
theorem dX11_move_58 : decode cX11_move 58 = .ok (.return_, 1) := by decide +kernel
theorem dX11_swap_0 : decode cX11_swap 0 = .ok (.aload_n 0, 1) := by decide +kernel
theorem dX11_swap_1 : decode cX11_swap 1 = .ok (.iload_n 1, 1) := by decide +kernel
theorem dX11_swap_2 : decode cX11_swap 2 = .ok (.iaload, 1) := by decide +kernel
theorem dX11_swap_3 : decode cX11_swap 3 = .ok (.istore_n 3, 1) := by decide +kernel
theorem dX11_swap_4 : decode cX11_swap 4 = .ok (.aload_n 0, 1) := by decide +kernel
theorem dX11_swap_5 : decode cX11_swap 5 = .ok (.iload_n 1, 1) := by decide +kernel
theorem dX11_swap_6 : decode cX11_swap 6 = .ok (.aload_n 0, 1) := by decide +kernel
theorem dX11_swap_7 : decode cX11_swap 7 = .ok (.iload_n 2, 1) := by decide +kernel
theorem dX11_swap_8 : decode cX11_swap 8 = .ok (.iaload, 1) := by decide +kernel
theorem dX11_swap_9 : decode cX11_swap 9 = .ok (.iastore, 1) := by decide +kernel
theorem dX11_swap_10 : decode cX11_swap 10 = .ok (.aload_n 0, 1) := by decide +kernel
theorem dX11_swap_11 : decode cX11_swap 11 = .ok (.iload_n 2, 1) := by decide +kernel
theorem dX11_swap_12 : decode cX11_swap 12 = .ok (.iload_n 3, 1) := by decide +kernel
theorem dX11_swap_13 : decode cX11_swap 13 = .ok (.iastore, 1) := by decide +kernel
theorem dX11_swap_14 : decode cX11_swap 14 = .ok (.return_, 1) := by decide +kernel
theorem dX11_ordersOf_0 : decode cX11_ordersOf 0 = .ok (.iconst 1, 1) := by decide +kernel
theorem dX11_ordersOf_1 : decode cX11_ordersOf 1 = .ok (.istore_n 1, 1) := by decide +kernel
theorem dX11_ordersOf_2 : decode cX11_ordersOf 2 = .ok (.iconst 2, 1) := by decide +kernel
theorem dX11_ordersOf_3 : decode cX11_ordersOf 3 = .ok (.istore_n 2, 1) := by decide +kernel
theorem dX11_ordersOf_4 : decode cX11_ordersOf 4 = .ok (.iload_n 2, 1) := by decide +kernel
theorem dX11_ordersOf_5 : decode cX11_ordersOf 5 = .ok (.iload_n 0, 1) := by decide +kernel
theorem dX11_ordersOf_6 : decode cX11_ordersOf 6 = .ok (.if_icmp .gt 13, 3) := by decide +kernel
theorem dX11_ordersOf_9 : decode cX11_ordersOf 9 = .ok (.iload_n 1, 1) := by decide +kernel
theorem dX11_ordersOf_10 : decode cX11_ordersOf 10 = .ok (.iload_n 2, 1) := by decide +kernel
theorem dX11_ordersOf_11 : decode cX11_ordersOf 11 = .ok (.imul, 1) := by decide +kernel
theorem dX11_ordersOf_12 : decode cX11_ordersOf 12 = .ok (.istore_n 1, 1) := by decide +kernel
theorem dX11_ordersOf_13 : decode cX11_ordersOf 13 = .ok (.iinc 2 1, 3) := by decide +kernel
theorem dX11_ordersOf_16 : decode cX11_ordersOf 16 = .ok (.goto (-12), 3) := by decide +kernel
theorem dX11_ordersOf_19 : decode cX11_ordersOf 19 = .ok (.iload_n 1, 1) := by decide +kernel
theorem dX11_ordersOf_20 : decode cX11_ordersOf 20 = .ok (.ireturn, 1) := by decide +kernel
theorem dX11_firstOrder_0 : decode cX11_firstOrder 0 = .ok (.iconst 0, 1) := by decide +kernel
theorem dX11_firstOrder_1 : decode cX11_firstOrder 1 = .ok (.istore_n 1, 1) := by decide +kernel
theorem dX11_firstOrder_2 : decode cX11_firstOrder 2 = .ok (.iload_n 1, 1) := by decide +kernel
theorem dX11_firstOrder_3 : decode cX11_firstOrder 3 = .ok (.aload_n 0, 1) := by decide +kernel
theorem dX11_firstOrder_4 : decode cX11_firstOrder 4 = .ok (.arraylength, 1) := by decide +kernel
theorem dX11_firstOrder_5 : decode cX11_firstOrder 5 = .ok (.if_icmp .ge 13, 3) := by decide +kernel
theorem dX11_firstOrder_8 : decode cX11_firstOrder 8 = .ok (.aload_n 0, 1) := by decide +kernel
theorem dX11_firstOrder_9 : decode cX11_firstOrder 9 = .ok (.iload_n 1, 1) := by decide +kernel
theorem dX11_firstOrder_10 : decode cX11_firstOrder 10 = .ok (.iload_n 1, 1) := by decide +kernel
theorem dX11_firstOrder_11 : decode cX11_firstOrder 11 = .ok (.iastore, 1) := by decide +kernel
theorem dX11_firstOrder_12 : decode cX11_firstOrder 12 = .ok (.iinc 1 1, 3) := by decide +kernel
theorem dX11_firstOrder_15 : decode cX11_firstOrder 15 = .ok (.goto (-13), 3) := by decide +kernel
theorem dX11_firstOrder_18 : decode cX11_firstOrder 18 = .ok (.return_, 1) := by decide +kernel
theorem dX11_nextOrder_0 : decode cX11_nextOrder 0 = .ok (.iload_n 1, 1) := by decide +kernel
theorem dX11_nextOrder_1 : decode cX11_nextOrder 1 = .ok (.iconst 2, 1) := by decide +kernel
theorem dX11_nextOrder_2 : decode cX11_nextOrder 2 = .ok (.isub, 1) := by decide +kernel
theorem dX11_nextOrder_3 : decode cX11_nextOrder 3 = .ok (.istore_n 2, 1) := by decide +kernel
theorem dX11_nextOrder_4 : decode cX11_nextOrder 4 = .ok (.iload_n 2, 1) := by decide +kernel
theorem dX11_nextOrder_5 : decode cX11_nextOrder 5 = .ok (.ifCond .lt 20, 3) := by decide +kernel
theorem dX11_nextOrder_8 : decode cX11_nextOrder 8 = .ok (.aload_n 0, 1) := by decide +kernel
theorem dX11_nextOrder_9 : decode cX11_nextOrder 9 = .ok (.iload_n 2, 1) := by decide +kernel
theorem dX11_nextOrder_10 : decode cX11_nextOrder 10 = .ok (.iaload, 1) := by decide +kernel
theorem dX11_nextOrder_11 : decode cX11_nextOrder 11 = .ok (.aload_n 0, 1) := by decide +kernel
theorem dX11_nextOrder_12 : decode cX11_nextOrder 12 = .ok (.iload_n 2, 1) := by decide +kernel
theorem dX11_nextOrder_13 : decode cX11_nextOrder 13 = .ok (.iconst 1, 1) := by decide +kernel
theorem dX11_nextOrder_14 : decode cX11_nextOrder 14 = .ok (.iadd, 1) := by decide +kernel
theorem dX11_nextOrder_15 : decode cX11_nextOrder 15 = .ok (.iaload, 1) := by decide +kernel
theorem dX11_nextOrder_16 : decode cX11_nextOrder 16 = .ok (.if_icmp .le 9, 3) := by decide +kernel
theorem dX11_nextOrder_19 : decode cX11_nextOrder 19 = .ok (.iinc 2 (-1), 3) := by decide +kernel
theorem dX11_nextOrder_22 : decode cX11_nextOrder 22 = .ok (.goto (-18), 3) := by decide +kernel
theorem dX11_nextOrder_25 : decode cX11_nextOrder 25 = .ok (.iload_n 2, 1) := by decide +kernel
theorem dX11_nextOrder_26 : decode cX11_nextOrder 26 = .ok (.ifCond .ge 4, 3) := by decide +kernel
theorem dX11_nextOrder_29 : decode cX11_nextOrder 29 = .ok (.return_, 1) := by decide +kernel
theorem dX11_nextOrder_30 : decode cX11_nextOrder 30 = .ok (.iload_n 1, 1) := by decide +kernel
theorem dX11_nextOrder_31 : decode cX11_nextOrder 31 = .ok (.iconst 1, 1) := by decide +kernel
theorem dX11_nextOrder_32 : decode cX11_nextOrder 32 = .ok (.isub, 1) := by decide +kernel
theorem dX11_nextOrder_33 : decode cX11_nextOrder 33 = .ok (.istore_n 3, 1) := by decide +kernel
theorem dX11_nextOrder_34 : decode cX11_nextOrder 34 = .ok (.iload_n 3, 1) := by decide +kernel
theorem dX11_nextOrder_35 : decode cX11_nextOrder 35 = .ok (.iload_n 2, 1) := by decide +kernel
theorem dX11_nextOrder_36 : decode cX11_nextOrder 36 = .ok (.if_icmp .le 18, 3) := by decide +kernel
theorem dX11_nextOrder_39 : decode cX11_nextOrder 39 = .ok (.aload_n 0, 1) := by decide +kernel
theorem dX11_nextOrder_40 : decode cX11_nextOrder 40 = .ok (.iload_n 3, 1) := by decide +kernel
theorem dX11_nextOrder_41 : decode cX11_nextOrder 41 = .ok (.iaload, 1) := by decide +kernel
theorem dX11_nextOrder_42 : decode cX11_nextOrder 42 = .ok (.aload_n 0, 1) := by decide +kernel
theorem dX11_nextOrder_43 : decode cX11_nextOrder 43 = .ok (.iload_n 2, 1) := by decide +kernel
theorem dX11_nextOrder_44 : decode cX11_nextOrder 44 = .ok (.iaload, 1) := by decide +kernel
theorem dX11_nextOrder_45 : decode cX11_nextOrder 45 = .ok (.if_icmp .ge 9, 3) := by decide +kernel
theorem dX11_nextOrder_48 : decode cX11_nextOrder 48 = .ok (.iinc 3 (-1), 3) := by decide +kernel
theorem dX11_nextOrder_51 : decode cX11_nextOrder 51 = .ok (.goto (-17), 3) := by decide +kernel
theorem dX11_nextOrder_54 : decode cX11_nextOrder 54 = .ok (.aload_n 0, 1) := by decide +kernel
theorem dX11_nextOrder_55 : decode cX11_nextOrder 55 = .ok (.iload_n 2, 1) := by decide +kernel
theorem dX11_nextOrder_56 : decode cX11_nextOrder 56 = .ok (.iload_n 3, 1) := by decide +kernel
theorem dX11_nextOrder_57 : decode cX11_nextOrder 57 = .ok (.invokestatic 315, 3) := by decide +kernel
theorem dX11_nextOrder_60 : decode cX11_nextOrder 60 = .ok (.iload_n 2, 1) := by decide +kernel
theorem dX11_nextOrder_61 : decode cX11_nextOrder 61 = .ok (.iconst 1, 1) := by decide +kernel
theorem dX11_nextOrder_62 : decode cX11_nextOrder 62 = .ok (.iadd, 1) := by decide +kernel
theorem dX11_nextOrder_63 : decode cX11_nextOrder 63 = .ok (.istore 4, 2) := by decide +kernel
theorem dX11_nextOrder_65 : decode cX11_nextOrder 65 = .ok (.iload_n 1, 1) := by decide +kernel
theorem dX11_nextOrder_66 : decode cX11_nextOrder 66 = .ok (.iconst 1, 1) := by decide +kernel
theorem dX11_nextOrder_67 : decode cX11_nextOrder 67 = .ok (.isub, 1) := by decide +kernel
theorem dX11_nextOrder_68 : decode cX11_nextOrder 68 = .ok (.istore 5, 2) := by decide +kernel
theorem dX11_nextOrder_70 : decode cX11_nextOrder 70 = .ok (.iload 4, 2) := by decide +kernel
theorem dX11_nextOrder_72 : decode cX11_nextOrder 72 = .ok (.iload 5, 2) := by decide +kernel
theorem dX11_nextOrder_74 : decode cX11_nextOrder 74 = .ok (.if_icmp .ge 20, 3) := by decide +kernel
theorem dX11_nextOrder_77 : decode cX11_nextOrder 77 = .ok (.aload_n 0, 1) := by decide +kernel
theorem dX11_nextOrder_78 : decode cX11_nextOrder 78 = .ok (.iload 4, 2) := by decide +kernel
theorem dX11_nextOrder_80 : decode cX11_nextOrder 80 = .ok (.iload 5, 2) := by decide +kernel
theorem dX11_nextOrder_82 : decode cX11_nextOrder 82 = .ok (.invokestatic 315, 3) := by decide +kernel
theorem dX11_nextOrder_85 : decode cX11_nextOrder 85 = .ok (.iinc 4 1, 3) := by decide +kernel
theorem dX11_nextOrder_88 : decode cX11_nextOrder 88 = .ok (.iinc 5 (-1), 3) := by decide +kernel
theorem dX11_nextOrder_91 : decode cX11_nextOrder 91 = .ok (.goto (-21), 3) := by decide +kernel
theorem dX11_nextOrder_94 : decode cX11_nextOrder 94 = .ok (.return_, 1) := by decide +kernel
theorem dX11_findFewest_0 : decode cX11_findFewest 0 = .ok (.aload_n 0, 1) := by decide +kernel
theorem dX11_findFewest_1 : decode cX11_findFewest 1 = .ok (.getfield 48, 3) := by decide +kernel
theorem dX11_findFewest_4 : decode cX11_findFewest 4 = .ok (.invokestatic 229, 3) := by decide +kernel
theorem dX11_findFewest_7 : decode cX11_findFewest 7 = .ok (.iconst (-1), 1) := by decide +kernel
theorem dX11_findFewest_8 : decode cX11_findFewest 8 = .ok (.istore_n 1, 1) := by decide +kernel
theorem dX11_findFewest_9 : decode cX11_findFewest 9 = .ok (.aload_n 0, 1) := by decide +kernel
theorem dX11_findFewest_10 : decode cX11_findFewest 10 = .ok (.getfield 12, 3) := by decide +kernel
theorem dX11_findFewest_13 : decode cX11_findFewest 13 = .ok (.getfield 57, 3) := by decide +kernel
theorem dX11_findFewest_16 : decode cX11_findFewest 16 = .ok (.invokestatic 226, 3) := by decide +kernel
theorem dX11_findFewest_19 : decode cX11_findFewest 19 = .ok (.istore_n 2, 1) := by decide +kernel
theorem dX11_findFewest_20 : decode cX11_findFewest 20 = .ok (.iconst 0, 1) := by decide +kernel
theorem dX11_findFewest_21 : decode cX11_findFewest 21 = .ok (.istore_n 3, 1) := by decide +kernel
theorem dX11_findFewest_22 : decode cX11_findFewest 22 = .ok (.iload_n 3, 1) := by decide +kernel
theorem dX11_findFewest_23 : decode cX11_findFewest 23 = .ok (.iload_n 2, 1) := by decide +kernel
theorem dX11_findFewest_24 : decode cX11_findFewest 24 = .ok (.if_icmp .ge 64, 3) := by decide +kernel
theorem dX11_findFewest_27 : decode cX11_findFewest 27 = .ok (.aload_n 0, 1) := by decide +kernel
theorem dX11_findFewest_28 : decode cX11_findFewest 28 = .ok (.getfield 12, 3) := by decide +kernel
theorem dX11_findFewest_31 : decode cX11_findFewest 31 = .ok (.aload_n 0, 1) := by decide +kernel
theorem dX11_findFewest_32 : decode cX11_findFewest 32 = .ok (.getfield 48, 3) := by decide +kernel
theorem dX11_findFewest_35 : decode cX11_findFewest 35 = .ok (.invokevirtual 318, 3) := by decide +kernel
theorem dX11_findFewest_38 : decode cX11_findFewest 38 = .ok (.istore 4, 2) := by decide +kernel
theorem dX11_findFewest_40 : decode cX11_findFewest 40 = .ok (.iload_n 1, 1) := by decide +kernel
theorem dX11_findFewest_41 : decode cX11_findFewest 41 = .ok (.ifCond .lt 9, 3) := by decide +kernel
theorem dX11_findFewest_44 : decode cX11_findFewest 44 = .ok (.iload 4, 2) := by decide +kernel
theorem dX11_findFewest_46 : decode cX11_findFewest 46 = .ok (.iload_n 1, 1) := by decide +kernel
theorem dX11_findFewest_47 : decode cX11_findFewest 47 = .ok (.if_icmp .ge 21, 3) := by decide +kernel
theorem dX11_findFewest_50 : decode cX11_findFewest 50 = .ok (.iload 4, 2) := by decide +kernel
theorem dX11_findFewest_52 : decode cX11_findFewest 52 = .ok (.istore_n 1, 1) := by decide +kernel
theorem dX11_findFewest_53 : decode cX11_findFewest 53 = .ok (.aload_n 0, 1) := by decide +kernel
theorem dX11_findFewest_54 : decode cX11_findFewest 54 = .ok (.getfield 48, 3) := by decide +kernel
theorem dX11_findFewest_57 : decode cX11_findFewest 57 = .ok (.iconst 0, 1) := by decide +kernel
theorem dX11_findFewest_58 : decode cX11_findFewest 58 = .ok (.aload_n 0, 1) := by decide +kernel
theorem dX11_findFewest_59 : decode cX11_findFewest 59 = .ok (.getfield 54, 3) := by decide +kernel
theorem dX11_findFewest_62 : decode cX11_findFewest 62 = .ok (.iconst 0, 1) := by decide +kernel
theorem dX11_findFewest_63 : decode cX11_findFewest 63 = .ok (.bipush 6, 2) := by decide +kernel
theorem dX11_findFewest_65 : decode cX11_findFewest 65 = .ok (.invokestatic 207, 3) := by decide +kernel
theorem dX11_findFewest_68 : decode cX11_findFewest 68 = .ok (.aload_n 0, 1) := by decide +kernel
theorem dX11_findFewest_69 : decode cX11_findFewest 69 = .ok (.getfield 48, 3) := by decide +kernel
theorem dX11_findFewest_72 : decode cX11_findFewest 72 = .ok (.aload_n 0, 1) := by decide +kernel
theorem dX11_findFewest_73 : decode cX11_findFewest 73 = .ok (.getfield 12, 3) := by decide +kernel
theorem dX11_findFewest_76 : decode cX11_findFewest 76 = .ok (.getfield 57, 3) := by decide +kernel
theorem dX11_findFewest_79 : decode cX11_findFewest 79 = .ok (.invokestatic 239, 3) := by decide +kernel
theorem dX11_findFewest_82 : decode cX11_findFewest 82 = .ok (.iinc 3 1, 3) := by decide +kernel
theorem dX11_findFewest_85 : decode cX11_findFewest 85 = .ok (.goto (-63), 3) := by decide +kernel
theorem dX11_findFewest_88 : decode cX11_findFewest 88 = .ok (.iload_n 1, 1) := by decide +kernel
theorem dX11_findFewest_89 : decode cX11_findFewest 89 = .ok (.ireturn, 1) := by decide +kernel
theorem dX11_newAsker_0 : decode cX11_newAsker 0 = .ok (.iload_n 0, 1) := by decide +kernel
theorem dX11_newAsker_1 : decode cX11_newAsker 1 = .ok (.tableswitch 99 1 6 #[39, 49, 59, 69, 79, 89], 39) := by decide +kernel
theorem dX11_newAsker_40 : decode cX11_newAsker 40 = .ok (.new 322, 3) := by decide +kernel
theorem dX11_newAsker_43 : decode cX11_newAsker 43 = .ok (.dup, 1) := by decide +kernel
theorem dX11_newAsker_44 : decode cX11_newAsker 44 = .ok (.iload_n 1, 1) := by decide +kernel
theorem dX11_newAsker_45 : decode cX11_newAsker 45 = .ok (.iload_n 2, 1) := by decide +kernel
theorem dX11_newAsker_46 : decode cX11_newAsker 46 = .ok (.invokespecial 324, 3) := by decide +kernel
theorem dX11_newAsker_49 : decode cX11_newAsker 49 = .ok (.areturn, 1) := by decide +kernel
theorem dX11_newAsker_50 : decode cX11_newAsker 50 = .ok (.new 327, 3) := by decide +kernel
theorem dX11_newAsker_53 : decode cX11_newAsker 53 = .ok (.dup, 1) := by decide +kernel
theorem dX11_newAsker_54 : decode cX11_newAsker 54 = .ok (.iload_n 1, 1) := by decide +kernel
theorem dX11_newAsker_55 : decode cX11_newAsker 55 = .ok (.iload_n 2, 1) := by decide +kernel
theorem dX11_newAsker_56 : decode cX11_newAsker 56 = .ok (.invokespecial 329, 3) := by decide +kernel
theorem dX11_newAsker_59 : decode cX11_newAsker 59 = .ok (.areturn, 1) := by decide +kernel
theorem dX11_newAsker_60 : decode cX11_newAsker 60 = .ok (.new 330, 3) := by decide +kernel
theorem dX11_newAsker_63 : decode cX11_newAsker 63 = .ok (.dup, 1) := by decide +kernel
theorem dX11_newAsker_64 : decode cX11_newAsker 64 = .ok (.iload_n 1, 1) := by decide +kernel
theorem dX11_newAsker_65 : decode cX11_newAsker 65 = .ok (.iload_n 2, 1) := by decide +kernel
theorem dX11_newAsker_66 : decode cX11_newAsker 66 = .ok (.invokespecial 332, 3) := by decide +kernel
theorem dX11_newAsker_69 : decode cX11_newAsker 69 = .ok (.areturn, 1) := by decide +kernel
theorem dX11_newAsker_70 : decode cX11_newAsker 70 = .ok (.new 333, 3) := by decide +kernel
theorem dX11_newAsker_73 : decode cX11_newAsker 73 = .ok (.dup, 1) := by decide +kernel
theorem dX11_newAsker_74 : decode cX11_newAsker 74 = .ok (.iload_n 1, 1) := by decide +kernel
theorem dX11_newAsker_75 : decode cX11_newAsker 75 = .ok (.iload_n 2, 1) := by decide +kernel
theorem dX11_newAsker_76 : decode cX11_newAsker 76 = .ok (.invokespecial 335, 3) := by decide +kernel
theorem dX11_newAsker_79 : decode cX11_newAsker 79 = .ok (.areturn, 1) := by decide +kernel
theorem dX11_newAsker_80 : decode cX11_newAsker 80 = .ok (.new 336, 3) := by decide +kernel
theorem dX11_newAsker_83 : decode cX11_newAsker 83 = .ok (.dup, 1) := by decide +kernel
theorem dX11_newAsker_84 : decode cX11_newAsker 84 = .ok (.iload_n 1, 1) := by decide +kernel
theorem dX11_newAsker_85 : decode cX11_newAsker 85 = .ok (.iload_n 2, 1) := by decide +kernel
theorem dX11_newAsker_86 : decode cX11_newAsker 86 = .ok (.invokespecial 338, 3) := by decide +kernel
theorem dX11_newAsker_89 : decode cX11_newAsker 89 = .ok (.areturn, 1) := by decide +kernel
theorem dX11_newAsker_90 : decode cX11_newAsker 90 = .ok (.new 282, 3) := by decide +kernel
theorem dX11_newAsker_93 : decode cX11_newAsker 93 = .ok (.dup, 1) := by decide +kernel
theorem dX11_newAsker_94 : decode cX11_newAsker 94 = .ok (.iload_n 1, 1) := by decide +kernel
theorem dX11_newAsker_95 : decode cX11_newAsker 95 = .ok (.iload_n 2, 1) := by decide +kernel
theorem dX11_newAsker_96 : decode cX11_newAsker 96 = .ok (.invokespecial 339, 3) := by decide +kernel
theorem dX11_newAsker_99 : decode cX11_newAsker 99 = .ok (.areturn, 1) := by decide +kernel
theorem dX11_newAsker_100 : decode cX11_newAsker 100 = .ok (.new 131, 3) := by decide +kernel
theorem dX11_newAsker_103 : decode cX11_newAsker 103 = .ok (.dup, 1) := by decide +kernel
theorem dX11_newAsker_104 : decode cX11_newAsker 104 = .ok (.iload_n 1, 1) := by decide +kernel
theorem dX11_newAsker_105 : decode cX11_newAsker 105 = .ok (.iload_n 2, 1) := by decide +kernel
theorem dX11_newAsker_106 : decode cX11_newAsker 106 = .ok (.invokespecial 340, 3) := by decide +kernel
theorem dX11_newAsker_109 : decode cX11_newAsker 109 = .ok (.areturn, 1) := by decide +kernel
theorem dX11_isOfKind_0 : decode cX11_isOfKind 0 = .ok (.iload_n 1, 1) := by decide +kernel
theorem dX11_isOfKind_1 : decode cX11_isOfKind 1 = .ok (.tableswitch 69 1 6 #[39, 44, 49, 54, 59, 64], 39) := by decide +kernel
theorem dX11_isOfKind_40 : decode cX11_isOfKind 40 = .ok (.aload_n 0, 1) := by decide +kernel
theorem dX11_isOfKind_41 : decode cX11_isOfKind 41 = .ok (.instanceof 322, 3) := by decide +kernel
theorem dX11_isOfKind_44 : decode cX11_isOfKind 44 = .ok (.ireturn, 1) := by decide +kernel
theorem dX11_isOfKind_45 : decode cX11_isOfKind 45 = .ok (.aload_n 0, 1) := by decide +kernel
theorem dX11_isOfKind_46 : decode cX11_isOfKind 46 = .ok (.instanceof 327, 3) := by decide +kernel
theorem dX11_isOfKind_49 : decode cX11_isOfKind 49 = .ok (.ireturn, 1) := by decide +kernel
theorem dX11_isOfKind_50 : decode cX11_isOfKind 50 = .ok (.aload_n 0, 1) := by decide +kernel
theorem dX11_isOfKind_51 : decode cX11_isOfKind 51 = .ok (.instanceof 330, 3) := by decide +kernel
theorem dX11_isOfKind_54 : decode cX11_isOfKind 54 = .ok (.ireturn, 1) := by decide +kernel
theorem dX11_isOfKind_55 : decode cX11_isOfKind 55 = .ok (.aload_n 0, 1) := by decide +kernel
theorem dX11_isOfKind_56 : decode cX11_isOfKind 56 = .ok (.instanceof 333, 3) := by decide +kernel
theorem dX11_isOfKind_59 : decode cX11_isOfKind 59 = .ok (.ireturn, 1) := by decide +kernel
theorem dX11_isOfKind_60 : decode cX11_isOfKind 60 = .ok (.aload_n 0, 1) := by decide +kernel
theorem dX11_isOfKind_61 : decode cX11_isOfKind 61 = .ok (.instanceof 336, 3) := by decide +kernel
theorem dX11_isOfKind_64 : decode cX11_isOfKind 64 = .ok (.ireturn, 1) := by decide +kernel
theorem dX11_isOfKind_65 : decode cX11_isOfKind 65 = .ok (.aload_n 0, 1) := by decide +kernel
theorem dX11_isOfKind_66 : decode cX11_isOfKind 66 = .ok (.instanceof 282, 3) := by decide +kernel
theorem dX11_isOfKind_69 : decode cX11_isOfKind 69 = .ok (.ireturn, 1) := by decide +kernel
theorem dX11_isOfKind_70 : decode cX11_isOfKind 70 = .ok (.iconst 1, 1) := by decide +kernel
theorem dX11_isOfKind_71 : decode cX11_isOfKind 71 = .ok (.ireturn, 1) := by decide +kernel
