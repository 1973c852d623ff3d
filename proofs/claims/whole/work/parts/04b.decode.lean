theorem dX5_init_0 : decode cX5_init 0 = .ok (.aload_n 0, 1) := by decide +kernel
theorem dX5_init_1 : decode cX5_init 1 = .ok (.invokespecial 1, 3) := by decide +kernel
theorem dX5_init_4 : decode cX5_init 4 = .ok (.aload_n 0, 1) := by decide +kernel
theorem dX5_init_5 : decode cX5_init 5 = .ok (.new 7, 3) := by decide +kernel
theorem dX5_init_8 : decode cX5_init 8 = .ok (.dup, 1) := by decide +kernel
theorem dX5_init_9 : decode cX5_init 9 = .ok (.invokespecial 9, 3) := by decide +kernel
theorem dX5_init_12 : decode cX5_init 12 = .ok (.putfield 10, 3) := by decide +kernel
theorem dX5_init_15 : decode cX5_init 15 = .ok (.aload_n 0, 1) := by decide +kernel
theorem dX5_init_16 : decode cX5_init 16 = .ok (.new 16, 3) := by decide +kernel
theorem dX5_init_19 : decode cX5_init 19 = .ok (.dup, 1) := by decide +kernel
theorem dX5_init_20 : decode cX5_init 20 = .ok (.invokespecial 18, 3) := by decide +kernel
theorem dX5_init_23 : decode cX5_init 23 = .ok (.putfield 19, 3) := by decide +kernel
theorem dX5_init_26 : decode cX5_init 26 = .ok (.aload_n 0, 1) := by decide +kernel
theorem dX5_init_27 : decode cX5_init 27 = .ok (.iconst 4, 1) := by decide +kernel
theorem dX5_init_28 : decode cX5_init 28 = .ok (.newarray .int, 2) := by decide +kernel
theorem dX5_init_30 : decode cX5_init 30 = .ok (.putfield 23, 3) := by decide +kernel
theorem dX5_init_33 : decode cX5_init 33 = .ok (.aload_n 0, 1) := by decide +kernel
theorem dX5_init_34 : decode cX5_init 34 = .ok (.new 27, 3) := by decide +kernel
theorem dX5_init_37 : decode cX5_init 37 = .ok (.dup, 1) := by decide +kernel
theorem dX5_init_38 : decode cX5_init 38 = .ok (.aload_n 0, 1) := by decide +kernel
theorem dX5_init_39 : decode cX5_init 39 = .ok (.getfield 19, 3) := by decide +kernel
theorem dX5_init_42 : decode cX5_init 42 = .ok (.aload_n 0, 1) := by decide +kernel
theorem dX5_init_43 : decode cX5_init 43 = .ok (.getfield 23, 3) := by decide +kernel
theorem dX5_init_46 : decode cX5_init 46 = .ok (.invokespecial 29, 3) := by decide +kernel
theorem dX5_init_49 : decode cX5_init 49 = .ok (.putfield 32, 3) := by decide +kernel
theorem dX5_init_52 : decode cX5_init 52 = .ok (.aload_n 0, 1) := by decide +kernel
theorem dX5_init_53 : decode cX5_init 53 = .ok (.new 36, 3) := by decide +kernel
theorem dX5_init_56 : decode cX5_init 56 = .ok (.dup, 1) := by decide +kernel
theorem dX5_init_57 : decode cX5_init 57 = .ok (.invokespecial 38, 3) := by decide +kernel
theorem dX5_init_60 : decode cX5_init 60 = .ok (.putfield 39, 3) := by decide +kernel
theorem dX5_init_63 : decode cX5_init 63 = .ok (.aload_n 0, 1) := by decide +kernel
theorem dX5_init_64 : decode cX5_init 64 = .ok (.bipush 16, 2) := by decide +kernel
theorem dX5_init_66 : decode cX5_init 66 = .ok (.newarray .int, 2) := by decide +kernel
theorem dX5_init_68 : decode cX5_init 68 = .ok (.putfield 43, 3) := by decide +kernel
theorem dX5_init_71 : decode cX5_init 71 = .ok (.aload_n 0, 1) := by decide +kernel
theorem dX5_init_72 : decode cX5_init 72 = .ok (.bipush 16, 2) := by decide +kernel
theorem dX5_init_74 : decode cX5_init 74 = .ok (.newarray .int, 2) := by decide +kernel
theorem dX5_init_76 : decode cX5_init 76 = .ok (.putfield 46, 3) := by decide +kernel
theorem dX5_init_79 : decode cX5_init 79 = .ok (.aload_n 0, 1) := by decide +kernel
theorem dX5_init_80 : decode cX5_init 80 = .ok (.iconst 0, 1) := by decide +kernel
theorem dX5_init_81 : decode cX5_init 81 = .ok (.putfield 49, 3) := by decide +kernel
theorem dX5_init_84 : decode cX5_init 84 = .ok (.aload_n 0, 1) := by decide +kernel
theorem dX5_init_85 : decode cX5_init 85 = .ok (.iconst (-1), 1) := by decide +kernel
theorem dX5_init_86 : decode cX5_init 86 = .ok (.putfield 53, 3) := by decide +kernel
theorem dX5_init_89 : decode cX5_init 89 = .ok (.return_, 1) := by decide +kernel
theorem dX5_program_0 : decode cX5_program 0 = .ok (.aload_n 0, 1) := by decide +kernel
theorem dX5_program_1 : decode cX5_program 1 = .ok (.getfield 10, 3) := by decide +kernel
theorem dX5_program_4 : decode cX5_program 4 = .ok (.iload_n 1, 1) := by decide +kernel
theorem dX5_program_5 : decode cX5_program 5 = .ok (.iload_n 2, 1) := by decide +kernel
theorem dX5_program_6 : decode cX5_program 6 = .ok (.iload_n 3, 1) := by decide +kernel
theorem dX5_program_7 : decode cX5_program 7 = .ok (.invokevirtual 56, 3) := by decide +kernel
theorem dX5_program_10 : decode cX5_program 10 = .ok (.ireturn, 1) := by decide +kernel
theorem dX5_seal_0 : decode cX5_seal 0 = .ok (.aload_n 0, 1) := by decide +kernel
theorem dX5_seal_1 : decode cX5_seal 1 = .ok (.getfield 10, 3) := by decide +kernel
theorem dX5_seal_4 : decode cX5_seal 4 = .ok (.invokevirtual 60, 3) := by decide +kernel
theorem dX5_seal_7 : decode cX5_seal 7 = .ok (.ireturn, 1) := by decide +kernel
theorem dX5_slot_0 : decode cX5_slot 0 = .ok (.aload_n 0, 1) := by decide +kernel
theorem dX5_slot_1 : decode cX5_slot 1 = .ok (.getfield 10, 3) := by decide +kernel
theorem dX5_slot_4 : decode cX5_slot 4 = .ok (.getfield 64, 3) := by decide +kernel
theorem dX5_slot_7 : decode cX5_slot 7 = .ok (.ifCond .ne 13, 3) := by decide +kernel
theorem dX5_slot_10 : decode cX5_slot 10 = .ok (.new 68, 3) := by decide +kernel
theorem dX5_slot_13 : decode cX5_slot 13 = .ok (.dup, 1) := by decide +kernel
theorem dX5_slot_14 : decode cX5_slot 14 = .ok (.ldc 70, 2) := by decide +kernel
theorem dX5_slot_16 : decode cX5_slot 16 = .ok (.invokespecial 72, 3) := by decide +kernel
theorem dX5_slot_19 : decode cX5_slot 19 = .ok (.athrow, 1) := by decide +kernel
theorem dX5_slot_20 : decode cX5_slot 20 = .ok (.iload_n 1, 1) := by decide +kernel
theorem dX5_slot_21 : decode cX5_slot 21 = .ok (.ifCond .lt 10, 3) := by decide +kernel
theorem dX5_slot_24 : decode cX5_slot 24 = .ok (.iload_n 1, 1) := by decide +kernel
theorem dX5_slot_25 : decode cX5_slot 25 = .ok (.sipush 500, 3) := by decide +kernel
theorem dX5_slot_28 : decode cX5_slot 28 = .ok (.if_icmp .le 13, 3) := by decide +kernel
theorem dX5_slot_31 : decode cX5_slot 31 = .ok (.new 75, 3) := by decide +kernel
theorem dX5_slot_34 : decode cX5_slot 34 = .ok (.dup, 1) := by decide +kernel
theorem dX5_slot_35 : decode cX5_slot 35 = .ok (.ldc 77, 2) := by decide +kernel
theorem dX5_slot_37 : decode cX5_slot 37 = .ok (.invokespecial 79, 3) := by decide +kernel
theorem dX5_slot_40 : decode cX5_slot 40 = .ok (.athrow, 1) := by decide +kernel
theorem dX5_slot_41 : decode cX5_slot 41 = .ok (.aload_n 0, 1) := by decide +kernel
theorem dX5_slot_42 : decode cX5_slot 42 = .ok (.sipush 2000, 3) := by decide +kernel
theorem dX5_slot_45 : decode cX5_slot 45 = .ok (.aload_n 0, 1) := by decide +kernel
theorem dX5_slot_46 : decode cX5_slot 46 = .ok (.getfield 80, 3) := by decide +kernel
theorem dX5_slot_49 : decode cX5_slot 49 = .ok (.iload_n 1, 1) := by decide +kernel
theorem dX5_slot_50 : decode cX5_slot 50 = .ok (.iadd, 1) := by decide +kernel
theorem dX5_slot_51 : decode cX5_slot 51 = .ok (.invokestatic 83, 3) := by decide +kernel
theorem dX5_slot_54 : decode cX5_slot 54 = .ok (.putfield 80, 3) := by decide +kernel
theorem dX5_slot_57 : decode cX5_slot 57 = .ok (.aload_n 0, 1) := by decide +kernel
theorem dX5_slot_58 : decode cX5_slot 58 = .ok (.dup, 1) := by decide +kernel
theorem dX5_slot_59 : decode cX5_slot 59 = .ok (.getfield 89, 3) := by decide +kernel
theorem dX5_slot_62 : decode cX5_slot 62 = .ok (.iconst 1, 1) := by decide +kernel
theorem dX5_slot_63 : decode cX5_slot 63 = .ok (.iadd, 1) := by decide +kernel
theorem dX5_slot_64 : decode cX5_slot 64 = .ok (.putfield 89, 3) := by decide +kernel
theorem dX5_slot_67 : decode cX5_slot 67 = .ok (.aload_n 0, 1) := by decide +kernel
theorem dX5_slot_68 : decode cX5_slot 68 = .ok (.getfield 49, 3) := by decide +kernel
theorem dX5_slot_71 : decode cX5_slot 71 = .ok (.ifCond .ne 12, 3) := by decide +kernel
theorem dX5_slot_74 : decode cX5_slot 74 = .ok (.aload_n 0, 1) := by decide +kernel
theorem dX5_slot_75 : decode cX5_slot 75 = .ok (.invokevirtual 92, 3) := by decide +kernel
theorem dX5_slot_78 : decode cX5_slot 78 = .ok (.ifCond .ne 5, 3) := by decide +kernel
theorem dX5_slot_81 : decode cX5_slot 81 = .ok (.iconst (-1), 1) := by decide +kernel
theorem dX5_slot_82 : decode cX5_slot 82 = .ok (.ireturn, 1) := by decide +kernel
theorem dX5_slot_83 : decode cX5_slot 83 = .ok (.iconst 0, 1) := by decide +kernel
theorem dX5_slot_84 : decode cX5_slot 84 = .ok (.istore_n 2, 1) := by decide +kernel
theorem dX5_slot_85 : decode cX5_slot 85 = .ok (.iconst 0, 1) := by decide +kernel
theorem dX5_slot_86 : decode cX5_slot 86 = .ok (.istore_n 3, 1) := by decide +kernel
theorem dX5_slot_87 : decode cX5_slot 87 = .ok (.iload_n 3, 1) := by decide +kernel
theorem dX5_slot_88 : decode cX5_slot 88 = .ok (.bipush 16, 2) := by decide +kernel
theorem dX5_slot_90 : decode cX5_slot 90 = .ok (.if_icmp .ge 26, 3) := by decide +kernel
theorem dX5_slot_93 : decode cX5_slot 93 = .ok (.aload_n 0, 1) := by decide +kernel
theorem dX5_slot_94 : decode cX5_slot 94 = .ok (.getfield 49, 3) := by decide +kernel
theorem dX5_slot_97 : decode cX5_slot 97 = .ok (.ifCond .eq 19, 3) := by decide +kernel
theorem dX5_slot_100 : decode cX5_slot 100 = .ok (.aload_n 0, 1) := by decide +kernel
theorem dX5_slot_101 : decode cX5_slot 101 = .ok (.invokevirtual 96, 3) := by decide +kernel
theorem dX5_slot_104 : decode cX5_slot 104 = .ok (.ifCond .eq 6, 3) := by decide +kernel
theorem dX5_slot_107 : decode cX5_slot 107 = .ok (.iinc 2 1, 3) := by decide +kernel
theorem dX5_slot_110 : decode cX5_slot 110 = .ok (.iinc 3 1, 3) := by decide +kernel
theorem dX5_slot_113 : decode cX5_slot 113 = .ok (.goto (-26), 3) := by decide +kernel
theorem dX5_slot_116 : decode cX5_slot 116 = .ok (.iload_n 2, 1) := by decide +kernel
theorem dX5_slot_117 : decode cX5_slot 117 = .ok (.ireturn, 1) := by decide +kernel
theorem dX5_cut_0 : decode cX5_cut 0 = .ok (.iload_n 1, 1) := by decide +kernel
theorem dX5_cut_1 : decode cX5_cut 1 = .ok (.ifCond .lt 10, 3) := by decide +kernel
theorem dX5_cut_4 : decode cX5_cut 4 = .ok (.iload_n 1, 1) := by decide +kernel
theorem dX5_cut_5 : decode cX5_cut 5 = .ok (.sipush 10000, 3) := by decide +kernel
theorem dX5_cut_8 : decode cX5_cut 8 = .ok (.if_icmp .le 5, 3) := by decide +kernel
theorem dX5_cut_11 : decode cX5_cut 11 = .ok (.iconst 0, 1) := by decide +kernel
theorem dX5_cut_12 : decode cX5_cut 12 = .ok (.ireturn, 1) := by decide +kernel
theorem dX5_cut_13 : decode cX5_cut 13 = .ok (.aload_n 0, 1) := by decide +kernel
theorem dX5_cut_14 : decode cX5_cut 14 = .ok (.iload_n 1, 1) := by decide +kernel
theorem dX5_cut_15 : decode cX5_cut 15 = .ok (.putfield 99, 3) := by decide +kernel
theorem dX5_cut_18 : decode cX5_cut 18 = .ok (.iconst 1, 1) := by decide +kernel
theorem dX5_cut_19 : decode cX5_cut 19 = .ok (.ireturn, 1) := by decide +kernel
theorem dX5_sense_0 : decode cX5_sense 0 = .ok (.iload_n 1, 1) := by decide +kernel
theorem dX5_sense_1 : decode cX5_sense 1 = .ok (.ifCond .lt 8, 3) := by decide +kernel
theorem dX5_sense_4 : decode cX5_sense 4 = .ok (.iload_n 1, 1) := by decide +kernel
theorem dX5_sense_5 : decode cX5_sense 5 = .ok (.iconst 4, 1) := by decide +kernel
theorem dX5_sense_6 : decode cX5_sense 6 = .ok (.if_icmp .lt 5, 3) := by decide +kernel
theorem dX5_sense_9 : decode cX5_sense 9 = .ok (.iconst 0, 1) := by decide +kernel
theorem dX5_sense_10 : decode cX5_sense 10 = .ok (.ireturn, 1) := by decide +kernel
theorem dX5_sense_11 : decode cX5_sense 11 = .ok (.aload_n 0, 1) := by decide +kernel
theorem dX5_sense_12 : decode cX5_sense 12 = .ok (.getfield 23, 3) := by decide +kernel
theorem dX5_sense_15 : decode cX5_sense 15 = .ok (.iload_n 1, 1) := by decide +kernel
theorem dX5_sense_16 : decode cX5_sense 16 = .ok (.iload_n 2, 1) := by decide +kernel
theorem dX5_sense_17 : decode cX5_sense 17 = .ok (.iastore, 1) := by decide +kernel
theorem dX5_sense_18 : decode cX5_sense 18 = .ok (.iconst 1, 1) := by decide +kernel
theorem dX5_sense_19 : decode cX5_sense 19 = .ok (.ireturn, 1) := by decide +kernel
theorem dX5_kept_0 : decode cX5_kept 0 = .ok (.iload_n 1, 1) := by decide +kernel
theorem dX5_kept_1 : decode cX5_kept 1 = .ok (.ifCond .lt 10, 3) := by decide +kernel
theorem dX5_kept_4 : decode cX5_kept 4 = .ok (.iload_n 1, 1) := by decide +kernel
theorem dX5_kept_5 : decode cX5_kept 5 = .ok (.sipush 164, 3) := by decide +kernel
theorem dX5_kept_8 : decode cX5_kept 8 = .ok (.if_icmp .lt 13, 3) := by decide +kernel
theorem dX5_kept_11 : decode cX5_kept 11 = .ok (.new 102, 3) := by decide +kernel
theorem dX5_kept_14 : decode cX5_kept 14 = .ok (.dup, 1) := by decide +kernel
theorem dX5_kept_15 : decode cX5_kept 15 = .ok (.ldc 104, 2) := by decide +kernel
theorem dX5_kept_17 : decode cX5_kept 17 = .ok (.invokespecial 106, 3) := by decide +kernel
theorem dX5_kept_20 : decode cX5_kept 20 = .ok (.athrow, 1) := by decide +kernel
theorem dX5_kept_21 : decode cX5_kept 21 = .ok (.iload_n 2, 1) := by decide +kernel
theorem dX5_kept_22 : decode cX5_kept 22 = .ok (.ifCond .eq 15, 3) := by decide +kernel
theorem dX5_kept_25 : decode cX5_kept 25 = .ok (.aload_n 0, 1) := by decide +kernel
theorem dX5_kept_26 : decode cX5_kept 26 = .ok (.getfield 19, 3) := by decide +kernel
theorem dX5_kept_29 : decode cX5_kept 29 = .ok (.getfield 107, 3) := by decide +kernel
theorem dX5_kept_32 : decode cX5_kept 32 = .ok (.iload_n 1, 1) := by decide +kernel
theorem dX5_kept_33 : decode cX5_kept 33 = .ok (.iaload, 1) := by decide +kernel
theorem dX5_kept_34 : decode cX5_kept 34 = .ok (.goto 12, 3) := by decide +kernel
theorem dX5_kept_37 : decode cX5_kept 37 = .ok (.aload_n 0, 1) := by decide +kernel
theorem dX5_kept_38 : decode cX5_kept 38 = .ok (.getfield 19, 3) := by decide +kernel
theorem dX5_kept_41 : decode cX5_kept 41 = .ok (.getfield 110, 3) := by decide +kernel
theorem dX5_kept_44 : decode cX5_kept 44 = .ok (.iload_n 1, 1) := by decide +kernel
theorem dX5_kept_45 : decode cX5_kept 45 = .ok (.iaload, 1) := by decide +kernel
theorem dX5_kept_46 : decode cX5_kept 46 = .ok (.ireturn, 1) := by decide +kernel
theorem dX5_aired_0 : decode cX5_aired 0 = .ok (.aload_n 0, 1) := by decide +kernel
theorem dX5_aired_1 : decode cX5_aired 1 = .ok (.getfield 39, 3) := by decide +kernel
theorem dX5_aired_4 : decode cX5_aired 4 = .ok (.iload_n 1, 1) := by decide +kernel
theorem dX5_aired_5 : decode cX5_aired 5 = .ok (.iload_n 2, 1) := by decide +kernel
theorem dX5_aired_6 : decode cX5_aired 6 = .ok (.invokevirtual 113, 3) := by decide +kernel
theorem dX5_aired_9 : decode cX5_aired 9 = .ok (.ireturn, 1) := by decide +kernel
theorem dX5_heard_0 : decode cX5_heard 0 = .ok (.aload_n 0, 1) := by decide +kernel
theorem dX5_heard_1 : decode cX5_heard 1 = .ok (.getfield 39, 3) := by decide +kernel
theorem dX5_heard_4 : decode cX5_heard 4 = .ok (.iload_n 1, 1) := by decide +kernel
theorem dX5_heard_5 : decode cX5_heard 5 = .ok (.invokevirtual 116, 3) := by decide +kernel
theorem dX5_heard_8 : decode cX5_heard 8 = .ok (.ifCond .ne 13, 3) := by decide +kernel
theorem dX5_heard_11 : decode cX5_heard 11 = .ok (.new 102, 3) := by decide +kernel
theorem dX5_heard_14 : decode cX5_heard 14 = .ok (.dup, 1) := by decide +kernel
theorem dX5_heard_15 : decode cX5_heard 15 = .ok (.ldc 120, 2) := by decide +kernel
theorem dX5_heard_17 : decode cX5_heard 17 = .ok (.invokespecial 106, 3) := by decide +kernel
theorem dX5_heard_20 : decode cX5_heard 20 = .ok (.athrow, 1) := by decide +kernel
theorem dX5_heard_21 : decode cX5_heard 21 = .ok (.aload_n 0, 1) := by decide +kernel
theorem dX5_heard_22 : decode cX5_heard 22 = .ok (.getfield 39, 3) := by decide +kernel
theorem dX5_heard_25 : decode cX5_heard 25 = .ok (.iload_n 1, 1) := by decide +kernel
theorem dX5_heard_26 : decode cX5_heard 26 = .ok (.invokevirtual 122, 3) := by decide +kernel
theorem dX5_heard_29 : decode cX5_heard 29 = .ok (.ireturn, 1) := by decide +kernel
theorem dX5_state_0 : decode cX5_state 0 = .ok (.iload_n 1, 1) := by decide +kernel
theorem dX5_state_1 : decode cX5_state 1 = .ok (.tableswitch 154 0 9 #[55, 60, 65, 70, 89, 111, 131, 136, 141, 146], 55) := by decide +kernel
theorem dX5_state_56 : decode cX5_state 56 = .ok (.aload_n 0, 1) := by decide +kernel
theorem dX5_state_57 : decode cX5_state 57 = .ok (.getfield 49, 3) := by decide +kernel
theorem dX5_state_60 : decode cX5_state 60 = .ok (.ireturn, 1) := by decide +kernel
theorem dX5_state_61 : decode cX5_state 61 = .ok (.aload_n 0, 1) := by decide +kernel
theorem dX5_state_62 : decode cX5_state 62 = .ok (.getfield 80, 3) := by decide +kernel
theorem dX5_state_65 : decode cX5_state 65 = .ok (.ireturn, 1) := by decide +kernel
theorem dX5_state_66 : decode cX5_state 66 = .ok (.aload_n 0, 1) := by decide +kernel
theorem dX5_state_67 : decode cX5_state 67 = .ok (.getfield 89, 3) := by decide +kernel
theorem dX5_state_70 : decode cX5_state 70 = .ok (.ireturn, 1) := by decide +kernel
theorem dX5_state_71 : decode cX5_state 71 = .ok (.aload_n 0, 1) := by decide +kernel
theorem dX5_state_72 : decode cX5_state 72 = .ok (.invokevirtual 126, 3) := by decide +kernel
theorem dX5_state_75 : decode cX5_state 75 = .ok (.ifCond .eq 13, 3) := by decide +kernel
theorem dX5_state_78 : decode cX5_state 78 = .ok (.aload_n 0, 1) := by decide +kernel
theorem dX5_state_79 : decode cX5_state 79 = .ok (.getfield 32, 3) := by decide +kernel
theorem dX5_state_82 : decode cX5_state 82 = .ok (.getfield 129, 3) := by decide +kernel
theorem dX5_state_85 : decode cX5_state 85 = .ok (.goto 4, 3) := by decide +kernel
theorem dX5_state_88 : decode cX5_state 88 = .ok (.iconst 0, 1) := by decide +kernel
theorem dX5_state_89 : decode cX5_state 89 = .ok (.ireturn, 1) := by decide +kernel
theorem dX5_state_90 : decode cX5_state 90 = .ok (.aload_n 0, 1) := by decide +kernel
theorem dX5_state_91 : decode cX5_state 91 = .ok (.invokevirtual 126, 3) := by decide +kernel
theorem dX5_state_94 : decode cX5_state 94 = .ok (.ifCond .eq 16, 3) := by decide +kernel
theorem dX5_state_97 : decode cX5_state 97 = .ok (.aload_n 0, 1) := by decide +kernel
theorem dX5_state_98 : decode cX5_state 98 = .ok (.getfield 32, 3) := by decide +kernel
theorem dX5_state_101 : decode cX5_state 101 = .ok (.getfield 132, 3) := by decide +kernel
theorem dX5_state_104 : decode cX5_state 104 = .ok (.getfield 136, 3) := by decide +kernel
theorem dX5_state_107 : decode cX5_state 107 = .ok (.goto 4, 3) := by decide +kernel
theorem dX5_state_110 : decode cX5_state 110 = .ok (.iconst 0, 1) := by decide +kernel
theorem dX5_state_111 : decode cX5_state 111 = .ok (.ireturn, 1) := by decide +kernel
theorem dX5_state_112 : decode cX5_state 112 = .ok (.aload_n 0, 1) := by decide +kernel
theorem dX5_state_113 : decode cX5_state 113 = .ok (.getfield 49, 3) := by decide +kernel
theorem dX5_state_116 : decode cX5_state 116 = .ok (.iconst 3, 1) := by decide +kernel
theorem dX5_state_117 : decode cX5_state 117 = .ok (.if_icmp .ne 13, 3) := by decide +kernel
theorem dX5_state_120 : decode cX5_state 120 = .ok (.aload_n 0, 1) := by decide +kernel
theorem dX5_state_121 : decode cX5_state 121 = .ok (.getfield 32, 3) := by decide +kernel
theorem dX5_state_124 : decode cX5_state 124 = .ok (.getfield 141, 3) := by decide +kernel
theorem dX5_state_127 : decode cX5_state 127 = .ok (.goto 4, 3) := by decide +kernel
theorem dX5_state_130 : decode cX5_state 130 = .ok (.iconst 0, 1) := by decide +kernel
theorem dX5_state_131 : decode cX5_state 131 = .ok (.ireturn, 1) := by decide +kernel
theorem dX5_state_132 : decode cX5_state 132 = .ok (.aload_n 0, 1) := by decide +kernel
theorem dX5_state_133 : decode cX5_state 133 = .ok (.getfield 53, 3) := by decide +kernel
theorem dX5_state_136 : decode cX5_state 136 = .ok (.ireturn, 1) := by decide +kernel
theorem dX5_state_137 : decode cX5_state 137 = .ok (.aload_n 0, 1) := by decide +kernel
theorem dX5_state_138 : decode cX5_state 138 = .ok (.getfield 144, 3) := by decide +kernel
theorem dX5_state_141 : decode cX5_state 141 = .ok (.ireturn, 1) := by decide +kernel
theorem dX5_state_142 : decode cX5_state 142 = .ok (.aload_n 0, 1) := by decide +kernel
theorem dX5_state_143 : decode cX5_state 143 = .ok (.getfield 147, 3) := by decide +kernel
theorem dX5_state_146 : decode cX5_state 146 = .ok (.ireturn, 1) := by decide +kernel
theorem dX5_state_147 : decode cX5_state 147 = .ok (.aload_n 0, 1) := by decide +kernel
theorem dX5_state_148 : decode cX5_state 148 = .ok (.getfield 39, 3) := by decide +kernel
theorem dX5_state_151 : decode cX5_state 151 = .ok (.getfield 150, 3) := by decide +kernel
theorem dX5_state_154 : decode cX5_state 154 = .ok (.ireturn, 1) := by decide +kernel
theorem dX5_state_155 : decode cX5_state 155 = .ok (.iconst (-1), 1) := by decide +kernel
theorem dX5_state_156 : decode cX5_state 156 = .ok (.ireturn, 1) := by decide +kernel
theorem dX5_task_0 : decode cX5_task 0 = .ok (.iload_n 1, 1) := by decide +kernel
theorem dX5_task_1 : decode cX5_task 1 = .ok (.ifCond .lt 9, 3) := by decide +kernel
theorem dX5_task_4 : decode cX5_task 4 = .ok (.iload_n 1, 1) := by decide +kernel
theorem dX5_task_5 : decode cX5_task 5 = .ok (.bipush 16, 2) := by decide +kernel
theorem dX5_task_7 : decode cX5_task 7 = .ok (.if_icmp .lt 5, 3) := by decide +kernel
theorem dX5_task_10 : decode cX5_task 10 = .ok (.iconst (-1), 1) := by decide +kernel
theorem dX5_task_11 : decode cX5_task 11 = .ok (.ireturn, 1) := by decide +kernel
theorem dX5_task_12 : decode cX5_task 12 = .ok (.iload_n 2, 1) := by decide +kernel
theorem dX5_task_13 : decode cX5_task 13 = .ok (.tableswitch 51 0 2 #[27, 34, 41], 27) := by decide +kernel
theorem dX5_task_40 : decode cX5_task 40 = .ok (.aload_n 0, 1) := by decide +kernel
theorem dX5_task_41 : decode cX5_task 41 = .ok (.getfield 43, 3) := by decide +kernel
theorem dX5_task_44 : decode cX5_task 44 = .ok (.iload_n 1, 1) := by decide +kernel
theorem dX5_task_45 : decode cX5_task 45 = .ok (.iaload, 1) := by decide +kernel
theorem dX5_task_46 : decode cX5_task 46 = .ok (.ireturn, 1) := by decide +kernel
theorem dX5_task_47 : decode cX5_task 47 = .ok (.aload_n 0, 1) := by decide +kernel
theorem dX5_task_48 : decode cX5_task 48 = .ok (.getfield 46, 3) := by decide +kernel
theorem dX5_task_51 : decode cX5_task 51 = .ok (.iload_n 1, 1) := by decide +kernel
theorem dX5_task_52 : decode cX5_task 52 = .ok (.iaload, 1) := by decide +kernel
theorem dX5_task_53 : decode cX5_task 53 = .ok (.ireturn, 1) := by decide +kernel
theorem dX5_task_54 : decode cX5_task 54 = .ok (.aload_n 0, 1) := by decide +kernel
theorem dX5_task_55 : decode cX5_task 55 = .ok (.getfield 10, 3) := by decide +kernel
theorem dX5_task_58 : decode cX5_task 58 = .ok (.getfield 153, 3) := by decide +kernel
theorem dX5_task_61 : decode cX5_task 61 = .ok (.iload_n 1, 1) := by decide +kernel
theorem dX5_task_62 : decode cX5_task 62 = .ok (.iaload, 1) := by decide +kernel
theorem dX5_task_63 : decode cX5_task 63 = .ok (.ireturn, 1) := by decide +kernel
theorem dX5_task_64 : decode cX5_task 64 = .ok (.iconst (-1), 1) := by decide +kernel
theorem dX5_task_65 : decode cX5_task 65 = .ok (.ireturn, 1) := by decide +kernel
theorem dX5_register_0 : decode cX5_register 0 = .ok (.aload_n 0, 1) := by decide +kernel
theorem dX5_register_1 : decode cX5_register 1 = .ok (.invokevirtual 126, 3) := by decide +kernel
theorem dX5_register_4 : decode cX5_register 4 = .ok (.ifCond .eq 13, 3) := by decide +kernel
theorem dX5_register_7 : decode cX5_register 7 = .ok (.iload_n 1, 1) := by decide +kernel
theorem dX5_register_8 : decode cX5_register 8 = .ok (.ifCond .lt 9, 3) := by decide +kernel
theorem dX5_register_11 : decode cX5_register 11 = .ok (.iload_n 1, 1) := by decide +kernel
theorem dX5_register_12 : decode cX5_register 12 = .ok (.bipush 8, 2) := by decide +kernel
theorem dX5_register_14 : decode cX5_register 14 = .ok (.if_icmp .lt 5, 3) := by decide +kernel
theorem dX5_register_17 : decode cX5_register 17 = .ok (.iconst 0, 1) := by decide +kernel
theorem dX5_register_18 : decode cX5_register 18 = .ok (.ireturn, 1) := by decide +kernel
theorem dX5_register_19 : decode cX5_register 19 = .ok (.aload_n 0, 1) := by decide +kernel
theorem dX5_register_20 : decode cX5_register 20 = .ok (.getfield 32, 3) := by decide +kernel
theorem dX5_register_23 : decode cX5_register 23 = .ok (.getfield 156, 3) := by decide +kernel
theorem dX5_register_26 : decode cX5_register 26 = .ok (.iload_n 1, 1) := by decide +kernel
theorem dX5_register_27 : decode cX5_register 27 = .ok (.iaload, 1) := by decide +kernel
theorem dX5_register_28 : decode cX5_register 28 = .ok (.ireturn, 1) := by decide +kernel
theorem dX5_isInAttempt_0 : decode cX5_isInAttempt 0 = .ok (.aload_n 0, 1) := by decide +kernel
theorem dX5_isInAttempt_1 : decode cX5_isInAttempt 1 = .ok (.getfield 49, 3) := by decide +kernel
theorem dX5_isInAttempt_4 : decode cX5_isInAttempt 4 = .ok (.iconst 3, 1) := by decide +kernel
theorem dX5_isInAttempt_5 : decode cX5_isInAttempt 5 = .ok (.if_icmp .eq 11, 3) := by decide +kernel
theorem dX5_isInAttempt_8 : decode cX5_isInAttempt 8 = .ok (.aload_n 0, 1) := by decide +kernel
theorem dX5_isInAttempt_9 : decode cX5_isInAttempt 9 = .ok (.getfield 49, 3) := by decide +kernel
theorem dX5_isInAttempt_12 : decode cX5_isInAttempt 12 = .ok (.iconst 4, 1) := by decide +kernel
theorem dX5_isInAttempt_13 : decode cX5_isInAttempt 13 = .ok (.if_icmp .ne 7, 3) := by decide +kernel
theorem dX5_isInAttempt_16 : decode cX5_isInAttempt 16 = .ok (.iconst 1, 1) := by decide +kernel
theorem dX5_isInAttempt_17 : decode cX5_isInAttempt 17 = .ok (.goto 4, 3) := by decide +kernel
theorem dX5_isInAttempt_20 : decode cX5_isInAttempt 20 = .ok (.iconst 0, 1) := by decide +kernel
theorem dX5_isInAttempt_21 : decode cX5_isInAttempt 21 = .ok (.ireturn, 1) := by decide +kernel
theorem dX5_currentTask_0 : decode cX5_currentTask 0 = .ok (.aload_n 0, 1) := by decide +kernel
theorem dX5_currentTask_1 : decode cX5_currentTask 1 = .ok (.getfield 19, 3) := by decide +kernel
theorem dX5_currentTask_4 : decode cX5_currentTask 4 = .ok (.getfield 110, 3) := by decide +kernel
theorem dX5_currentTask_7 : decode cX5_currentTask 7 = .ok (.iconst 0, 1) := by decide +kernel
theorem dX5_currentTask_8 : decode cX5_currentTask 8 = .ok (.iaload, 1) := by decide +kernel
theorem dX5_currentTask_9 : decode cX5_currentTask 9 = .ok (.bipush 15, 2) := by decide +kernel
theorem dX5_currentTask_11 : decode cX5_currentTask 11 = .ok (.iand, 1) := by decide +kernel
theorem dX5_currentTask_12 : decode cX5_currentTask 12 = .ok (.ireturn, 1) := by decide +kernel
theorem dX5_boot_0 : decode cX5_boot 0 = .ok (.sipush 2000, 3) := by decide +kernel
theorem dX5_boot_3 : decode cX5_boot 3 = .ok (.aload_n 0, 1) := by decide +kernel
theorem dX5_boot_4 : decode cX5_boot 4 = .ok (.getfield 43, 3) := by decide +kernel
theorem dX5_boot_7 : decode cX5_boot 7 = .ok (.aload_n 0, 1) := by decide +kernel
theorem dX5_boot_8 : decode cX5_boot 8 = .ok (.invokevirtual 159, 3) := by decide +kernel
theorem dX5_boot_11 : decode cX5_boot 11 = .ok (.iaload, 1) := by decide +kernel
theorem dX5_boot_12 : decode cX5_boot 12 = .ok (.bipush 60, 2) := by decide +kernel
theorem dX5_boot_14 : decode cX5_boot 14 = .ok (.iadd, 1) := by decide +kernel
theorem dX5_boot_15 : decode cX5_boot 15 = .ok (.invokestatic 83, 3) := by decide +kernel
theorem dX5_boot_18 : decode cX5_boot 18 = .ok (.istore_n 1, 1) := by decide +kernel
theorem dX5_boot_19 : decode cX5_boot 19 = .ok (.aload_n 0, 1) := by decide +kernel
theorem dX5_boot_20 : decode cX5_boot 20 = .ok (.getfield 53, 3) := by decide +kernel
theorem dX5_boot_23 : decode cX5_boot 23 = .ok (.iconst (-1), 1) := by decide +kernel
theorem dX5_boot_24 : decode cX5_boot 24 = .ok (.if_icmp .ne 11, 3) := by decide +kernel
theorem dX5_boot_27 : decode cX5_boot 27 = .ok (.aload_n 0, 1) := by decide +kernel
theorem dX5_boot_28 : decode cX5_boot 28 = .ok (.getfield 80, 3) := by decide +kernel
theorem dX5_boot_31 : decode cX5_boot 31 = .ok (.iload_n 1, 1) := by decide +kernel
theorem dX5_boot_32 : decode cX5_boot 32 = .ok (.if_icmp .ge 5, 3) := by decide +kernel
theorem dX5_boot_35 : decode cX5_boot 35 = .ok (.iconst 0, 1) := by decide +kernel
theorem dX5_boot_36 : decode cX5_boot 36 = .ok (.ireturn, 1) := by decide +kernel
theorem dX5_boot_37 : decode cX5_boot 37 = .ok (.aload_n 0, 1) := by decide +kernel
theorem dX5_boot_38 : decode cX5_boot 38 = .ok (.dup, 1) := by decide +kernel
theorem dX5_boot_39 : decode cX5_boot 39 = .ok (.getfield 80, 3) := by decide +kernel
theorem dX5_boot_42 : decode cX5_boot 42 = .ok (.bipush 60, 2) := by decide +kernel
theorem dX5_boot_44 : decode cX5_boot 44 = .ok (.isub, 1) := by decide +kernel
theorem dX5_boot_45 : decode cX5_boot 45 = .ok (.putfield 80, 3) := by decide +kernel
theorem dX5_boot_48 : decode cX5_boot 48 = .ok (.aload_n 0, 1) := by decide +kernel
theorem dX5_boot_49 : decode cX5_boot 49 = .ok (.iconst 0, 1) := by decide +kernel
theorem dX5_boot_50 : decode cX5_boot 50 = .ok (.putfield 162, 3) := by decide +kernel
theorem dX5_boot_53 : decode cX5_boot 53 = .ok (.aload_n 0, 1) := by decide +kernel
theorem dX5_boot_54 : decode cX5_boot 54 = .ok (.iconst 0, 1) := by decide +kernel
theorem dX5_boot_55 : decode cX5_boot 55 = .ok (.putfield 165, 3) := by decide +kernel
theorem dX5_boot_58 : decode cX5_boot 58 = .ok (.aload_n 0, 1) := by decide +kernel
theorem dX5_boot_59 : decode cX5_boot 59 = .ok (.aload_n 0, 1) := by decide +kernel
theorem dX5_boot_60 : decode cX5_boot 60 = .ok (.getfield 19, 3) := by decide +kernel
theorem dX5_boot_63 : decode cX5_boot 63 = .ok (.getfield 110, 3) := by decide +kernel
theorem dX5_boot_66 : decode cX5_boot 66 = .ok (.iconst 2, 1) := by decide +kernel
theorem dX5_boot_67 : decode cX5_boot 67 = .ok (.iaload, 1) := by decide +kernel
theorem dX5_boot_68 : decode cX5_boot 68 = .ok (.ifCond .eq 7, 3) := by decide +kernel
theorem dX5_boot_71 : decode cX5_boot 71 = .ok (.iconst 1, 1) := by decide +kernel
theorem dX5_boot_72 : decode cX5_boot 72 = .ok (.goto 4, 3) := by decide +kernel
theorem dX5_boot_75 : decode cX5_boot 75 = .ok (.iconst 2, 1) := by decide +kernel
theorem dX5_boot_76 : decode cX5_boot 76 = .ok (.putfield 49, 3) := by decide +kernel
theorem dX5_boot_79 : decode cX5_boot 79 = .ok (.iconst 1, 1) := by decide +kernel
theorem dX5_boot_80 : decode cX5_boot 80 = .ok (.ireturn, 1) := by decide +kernel
theorem dX5_step_0 : decode cX5_step 0 = .ok (.aload_n 0, 1) := by decide +kernel
theorem dX5_step_1 : decode cX5_step 1 = .ok (.getfield 49, 3) := by decide +kernel
theorem dX5_step_4 : decode cX5_step 4 = .ok (.iconst 2, 1) := by decide +kernel
theorem dX5_step_5 : decode cX5_step 5 = .ok (.if_icmp .ne 29, 3) := by decide +kernel
theorem dX5_step_8 : decode cX5_step 8 = .ok (.aload_n 0, 1) := by decide +kernel
theorem dX5_step_9 : decode cX5_step 9 = .ok (.getfield 19, 3) := by decide +kernel
theorem dX5_step_12 : decode cX5_step 12 = .ok (.invokevirtual 168, 3) := by decide +kernel
theorem dX5_step_15 : decode cX5_step 15 = .ok (.ifCond .ne 19, 3) := by decide +kernel
theorem dX5_step_18 : decode cX5_step 18 = .ok (.aload_n 0, 1) := by decide +kernel
theorem dX5_step_19 : decode cX5_step 19 = .ok (.getfield 32, 3) := by decide +kernel
theorem dX5_step_22 : decode cX5_step 22 = .ok (.aload_n 0, 1) := by decide +kernel
theorem dX5_step_23 : decode cX5_step 23 = .ok (.invokevirtual 159, 3) := by decide +kernel
theorem dX5_step_26 : decode cX5_step 26 = .ok (.invokevirtual 171, 3) := by decide +kernel
theorem dX5_step_29 : decode cX5_step 29 = .ok (.aload_n 0, 1) := by decide +kernel
theorem dX5_step_30 : decode cX5_step 30 = .ok (.iconst 3, 1) := by decide +kernel
theorem dX5_step_31 : decode cX5_step 31 = .ok (.putfield 49, 3) := by decide +kernel
theorem dX5_step_34 : decode cX5_step 34 = .ok (.aload_n 0, 1) := by decide +kernel
theorem dX5_step_35 : decode cX5_step 35 = .ok (.invokevirtual 175, 3) := by decide +kernel
theorem dX5_step_38 : decode cX5_step 38 = .ok (.istore_n 1, 1) := by decide +kernel
theorem dX5_step_39 : decode cX5_step 39 = .ok (.iload_n 1, 1) := by decide +kernel
theorem dX5_step_40 : decode cX5_step 40 = .ok (.aload_n 0, 1) := by decide +kernel
theorem dX5_step_41 : decode cX5_step 41 = .ok (.getfield 80, 3) := by decide +kernel
theorem dX5_step_44 : decode cX5_step 44 = .ok (.if_icmp .le 9, 3) := by decide +kernel
theorem dX5_step_47 : decode cX5_step 47 = .ok (.aload_n 0, 1) := by decide +kernel
theorem dX5_step_48 : decode cX5_step 48 = .ok (.invokevirtual 178, 3) := by decide +kernel
theorem dX5_step_51 : decode cX5_step 51 = .ok (.iconst 0, 1) := by decide +kernel
theorem dX5_step_52 : decode cX5_step 52 = .ok (.ireturn, 1) := by decide +kernel
theorem dX5_step_53 : decode cX5_step 53 = .ok (.aload_n 0, 1) := by decide +kernel
theorem dX5_step_54 : decode cX5_step 54 = .ok (.iload_n 1, 1) := by decide +kernel
theorem dX5_step_55 : decode cX5_step 55 = .ok (.invokevirtual 181, 3) := by decide +kernel
theorem dX5_step_58 : decode cX5_step 58 = .ok (.aload_n 0, 1) := by decide +kernel
theorem dX5_step_59 : decode cX5_step 59 = .ok (.getfield 49, 3) := by decide +kernel
theorem dX5_step_62 : decode cX5_step 62 = .ok (.tableswitch 51 1 3 #[26, 33, 40], 26) := by decide +kernel
theorem dX5_step_88 : decode cX5_step 88 = .ok (.aload_n 0, 1) := by decide +kernel
theorem dX5_step_89 : decode cX5_step 89 = .ok (.invokevirtual 184, 3) := by decide +kernel
theorem dX5_step_92 : decode cX5_step 92 = .ok (.goto 25, 3) := by decide +kernel
theorem dX5_step_95 : decode cX5_step 95 = .ok (.aload_n 0, 1) := by decide +kernel
theorem dX5_step_96 : decode cX5_step 96 = .ok (.invokevirtual 187, 3) := by decide +kernel
theorem dX5_step_99 : decode cX5_step 99 = .ok (.goto 18, 3) := by decide +kernel
theorem dX5_step_102 : decode cX5_step 102 = .ok (.aload_n 0, 1) := by decide +kernel
theorem dX5_step_103 : decode cX5_step 103 = .ok (.aload_n 0, 1) := by decide +kernel
theorem dX5_step_104 : decode cX5_step 104 = .ok (.invokevirtual 190, 3) := by decide +kernel
theorem dX5_step_107 : decode cX5_step 107 = .ok (.invokevirtual 193, 3) := by decide +kernel
theorem dX5_step_110 : decode cX5_step 110 = .ok (.goto 7, 3) := by decide +kernel
theorem dX5_step_113 : decode cX5_step 113 = .ok (.aload_n 0, 1) := by decide +kernel
theorem dX5_step_114 : decode cX5_step 114 = .ok (.invokevirtual 196, 3) := by decide +kernel
theorem dX5_step_117 : decode cX5_step 117 = .ok (.aload_n 0, 1) := by decide +kernel
theorem dX5_step_118 : decode cX5_step 118 = .ok (.invokevirtual 199, 3) := by decide +kernel
theorem dX5_step_121 : decode cX5_step 121 = .ok (.iconst 1, 1) := by decide +kernel
theorem dX5_step_122 : decode cX5_step 122 = .ok (.ireturn, 1) := by decide +kernel
theorem dX5_pay_0 : decode cX5_pay 0 = .ok (.aload_n 0, 1) := by decide +kernel
theorem dX5_pay_1 : decode cX5_pay 1 = .ok (.dup, 1) := by decide +kernel
theorem dX5_pay_2 : decode cX5_pay 2 = .ok (.getfield 80, 3) := by decide +kernel
theorem dX5_pay_5 : decode cX5_pay 5 = .ok (.iload_n 1, 1) := by decide +kernel
theorem dX5_pay_6 : decode cX5_pay 6 = .ok (.isub, 1) := by decide +kernel
theorem dX5_pay_7 : decode cX5_pay 7 = .ok (.putfield 80, 3) := by decide +kernel
theorem dX5_pay_10 : decode cX5_pay 10 = .ok (.aload_n 0, 1) := by decide +kernel
theorem dX5_pay_11 : decode cX5_pay 11 = .ok (.invokevirtual 126, 3) := by decide +kernel
theorem dX5_pay_14 : decode cX5_pay 14 = .ok (.ifCond .eq 16, 3) := by decide +kernel
theorem dX5_pay_17 : decode cX5_pay 17 = .ok (.aload_n 0, 1) := by decide +kernel
theorem dX5_pay_18 : decode cX5_pay 18 = .ok (.getfield 32, 3) := by decide +kernel
theorem dX5_pay_21 : decode cX5_pay 21 = .ok (.dup, 1) := by decide +kernel
theorem dX5_pay_22 : decode cX5_pay 22 = .ok (.getfield 129, 3) := by decide +kernel
theorem dX5_pay_25 : decode cX5_pay 25 = .ok (.iload_n 1, 1) := by decide +kernel
theorem dX5_pay_26 : decode cX5_pay 26 = .ok (.iadd, 1) := by decide +kernel
theorem dX5_pay_27 : decode cX5_pay 27 = .ok (.putfield 129, 3) := by decide +kernel
theorem dX5_pay_30 : decode cX5_pay 30 = .ok (.return_, 1) := by decide +kernel
theorem dX5_costOfStep_0 : decode cX5_costOfStep 0 = .ok (.aload_n 0, 1) := by decide +kernel
theorem dX5_costOfStep_1 : decode cX5_costOfStep 1 = .ok (.getfield 49, 3) := by decide +kernel
theorem dX5_costOfStep_4 : decode cX5_costOfStep 4 = .ok (.iconst 3, 1) := by decide +kernel
theorem dX5_costOfStep_5 : decode cX5_costOfStep 5 = .ok (.if_icmp .ne 11, 3) := by decide +kernel
theorem dX5_costOfStep_8 : decode cX5_costOfStep 8 = .ok (.aload_n 0, 1) := by decide +kernel
theorem dX5_costOfStep_9 : decode cX5_costOfStep 9 = .ok (.invokevirtual 190, 3) := by decide +kernel
theorem dX5_costOfStep_12 : decode cX5_costOfStep 12 = .ok (.invokestatic 202, 3) := by decide +kernel
theorem dX5_costOfStep_15 : decode cX5_costOfStep 15 = .ok (.ireturn, 1) := by decide +kernel
theorem dX5_costOfStep_16 : decode cX5_costOfStep 16 = .ok (.aload_n 0, 1) := by decide +kernel
theorem dX5_costOfStep_17 : decode cX5_costOfStep 17 = .ok (.getfield 49, 3) := by decide +kernel
theorem dX5_costOfStep_20 : decode cX5_costOfStep 20 = .ok (.iconst 2, 1) := by decide +kernel
theorem dX5_costOfStep_21 : decode cX5_costOfStep 21 = .ok (.if_icmp .ne 15, 3) := by decide +kernel
theorem dX5_costOfStep_24 : decode cX5_costOfStep 24 = .ok (.aload_n 0, 1) := by decide +kernel
theorem dX5_costOfStep_25 : decode cX5_costOfStep 25 = .ok (.getfield 165, 3) := by decide +kernel
theorem dX5_costOfStep_28 : decode cX5_costOfStep 28 = .ok (.ifCond .ne 8, 3) := by decide +kernel
theorem dX5_costOfStep_31 : decode cX5_costOfStep 31 = .ok (.bipush 20, 2) := by decide +kernel
theorem dX5_costOfStep_33 : decode cX5_costOfStep 33 = .ok (.goto 4, 3) := by decide +kernel
theorem dX5_costOfStep_36 : decode cX5_costOfStep 36 = .ok (.iconst 4, 1) := by decide +kernel
theorem dX5_costOfStep_37 : decode cX5_costOfStep 37 = .ok (.ireturn, 1) := by decide +kernel
theorem dX5_nextInstruction_0 : decode cX5_nextInstruction 0 = .ok (.aload_n 0, 1) := by decide +kernel
theorem dX5_nextInstruction_1 : decode cX5_nextInstruction 1 = .ok (.getfield 10, 3) := by decide +kernel
theorem dX5_nextInstruction_4 : decode cX5_nextInstruction 4 = .ok (.aload_n 0, 1) := by decide +kernel
theorem dX5_nextInstruction_5 : decode cX5_nextInstruction 5 = .ok (.getfield 32, 3) := by decide +kernel
theorem dX5_nextInstruction_8 : decode cX5_nextInstruction 8 = .ok (.getfield 205, 3) := by decide +kernel
theorem dX5_nextInstruction_11 : decode cX5_nextInstruction 11 = .ok (.aload_n 0, 1) := by decide +kernel
theorem dX5_nextInstruction_12 : decode cX5_nextInstruction 12 = .ok (.getfield 32, 3) := by decide +kernel
theorem dX5_nextInstruction_15 : decode cX5_nextInstruction 15 = .ok (.getfield 141, 3) := by decide +kernel
theorem dX5_nextInstruction_18 : decode cX5_nextInstruction 18 = .ok (.invokevirtual 208, 3) := by decide +kernel
theorem dX5_nextInstruction_21 : decode cX5_nextInstruction 21 = .ok (.ireturn, 1) := by decide +kernel
theorem dX5_countTowardsCut_0 : decode cX5_countTowardsCut 0 = .ok (.aload_n 0, 1) := by decide +kernel
theorem dX5_countTowardsCut_1 : decode cX5_countTowardsCut 1 = .ok (.getfield 99, 3) := by decide +kernel
theorem dX5_countTowardsCut_4 : decode cX5_countTowardsCut 4 = .ok (.ifCond .ne 4, 3) := by decide +kernel
theorem dX5_countTowardsCut_7 : decode cX5_countTowardsCut 7 = .ok (.return_, 1) := by decide +kernel
theorem dX5_countTowardsCut_8 : decode cX5_countTowardsCut 8 = .ok (.aload_n 0, 1) := by decide +kernel
theorem dX5_countTowardsCut_9 : decode cX5_countTowardsCut 9 = .ok (.dup, 1) := by decide +kernel
theorem dX5_countTowardsCut_10 : decode cX5_countTowardsCut 10 = .ok (.getfield 99, 3) := by decide +kernel
theorem dX5_countTowardsCut_13 : decode cX5_countTowardsCut 13 = .ok (.iconst 1, 1) := by decide +kernel
theorem dX5_countTowardsCut_14 : decode cX5_countTowardsCut 14 = .ok (.isub, 1) := by decide +kernel
theorem dX5_countTowardsCut_15 : decode cX5_countTowardsCut 15 = .ok (.putfield 99, 3) := by decide +kernel
theorem dX5_countTowardsCut_18 : decode cX5_countTowardsCut 18 = .ok (.aload_n 0, 1) := by decide +kernel
theorem dX5_countTowardsCut_19 : decode cX5_countTowardsCut 19 = .ok (.getfield 99, 3) := by decide +kernel
theorem dX5_countTowardsCut_22 : decode cX5_countTowardsCut 22 = .ok (.ifCond .ne 7, 3) := by decide +kernel
theorem dX5_countTowardsCut_25 : decode cX5_countTowardsCut 25 = .ok (.aload_n 0, 1) := by decide +kernel
theorem dX5_countTowardsCut_26 : decode cX5_countTowardsCut 26 = .ok (.invokevirtual 178, 3) := by decide +kernel
theorem dX5_countTowardsCut_29 : decode cX5_countTowardsCut 29 = .ok (.return_, 1) := by decide +kernel
theorem dX5_doReplayStep_0 : decode cX5_doReplayStep 0 = .ok (.aload_n 0, 1) := by decide +kernel
theorem dX5_doReplayStep_1 : decode cX5_doReplayStep 1 = .ok (.getfield 162, 3) := by decide +kernel
theorem dX5_doReplayStep_4 : decode cX5_doReplayStep 4 = .ok (.aload_n 0, 1) := by decide +kernel
theorem dX5_doReplayStep_5 : decode cX5_doReplayStep 5 = .ok (.getfield 19, 3) := by decide +kernel
theorem dX5_doReplayStep_8 : decode cX5_doReplayStep 8 = .ok (.getfield 110, 3) := by decide +kernel
theorem dX5_doReplayStep_11 : decode cX5_doReplayStep 11 = .ok (.iconst 2, 1) := by decide +kernel
theorem dX5_doReplayStep_12 : decode cX5_doReplayStep 12 = .ok (.iaload, 1) := by decide +kernel
theorem dX5_doReplayStep_13 : decode cX5_doReplayStep 13 = .ok (.if_icmp .ge 27, 3) := by decide +kernel
theorem dX5_doReplayStep_16 : decode cX5_doReplayStep 16 = .ok (.aload_n 0, 1) := by decide +kernel
theorem dX5_doReplayStep_17 : decode cX5_doReplayStep 17 = .ok (.getfield 19, 3) := by decide +kernel
theorem dX5_doReplayStep_20 : decode cX5_doReplayStep 20 = .ok (.aload_n 0, 1) := by decide +kernel
theorem dX5_doReplayStep_21 : decode cX5_doReplayStep 21 = .ok (.getfield 162, 3) := by decide +kernel
theorem dX5_doReplayStep_24 : decode cX5_doReplayStep 24 = .ok (.invokevirtual 211, 3) := by decide +kernel
theorem dX5_doReplayStep_27 : decode cX5_doReplayStep 27 = .ok (.aload_n 0, 1) := by decide +kernel
theorem dX5_doReplayStep_28 : decode cX5_doReplayStep 28 = .ok (.dup, 1) := by decide +kernel
theorem dX5_doReplayStep_29 : decode cX5_doReplayStep 29 = .ok (.getfield 162, 3) := by decide +kernel
theorem dX5_doReplayStep_32 : decode cX5_doReplayStep 32 = .ok (.iconst 1, 1) := by decide +kernel
theorem dX5_doReplayStep_33 : decode cX5_doReplayStep 33 = .ok (.iadd, 1) := by decide +kernel
theorem dX5_doReplayStep_34 : decode cX5_doReplayStep 34 = .ok (.putfield 162, 3) := by decide +kernel
theorem dX5_doReplayStep_37 : decode cX5_doReplayStep 37 = .ok (.goto 17, 3) := by decide +kernel
theorem dX5_doReplayStep_40 : decode cX5_doReplayStep 40 = .ok (.aload_n 0, 1) := by decide +kernel
theorem dX5_doReplayStep_41 : decode cX5_doReplayStep 41 = .ok (.getfield 19, 3) := by decide +kernel
theorem dX5_doReplayStep_44 : decode cX5_doReplayStep 44 = .ok (.iconst 2, 1) := by decide +kernel
theorem dX5_doReplayStep_45 : decode cX5_doReplayStep 45 = .ok (.iconst 0, 1) := by decide +kernel
theorem dX5_doReplayStep_46 : decode cX5_doReplayStep 46 = .ok (.invokevirtual 214, 3) := by decide +kernel
theorem dX5_doReplayStep_49 : decode cX5_doReplayStep 49 = .ok (.aload_n 0, 1) := by decide +kernel
theorem dX5_doReplayStep_50 : decode cX5_doReplayStep 50 = .ok (.iconst 2, 1) := by decide +kernel
theorem dX5_doReplayStep_51 : decode cX5_doReplayStep 51 = .ok (.putfield 49, 3) := by decide +kernel
theorem dX5_doReplayStep_54 : decode cX5_doReplayStep 54 = .ok (.return_, 1) := by decide +kernel
theorem dX5_doAirStep_0 : decode cX5_doAirStep 0 = .ok (.aload_n 0, 1) := by decide +kernel
theorem dX5_doAirStep_1 : decode cX5_doAirStep 1 = .ok (.getfield 19, 3) := by decide +kernel
theorem dX5_doAirStep_4 : decode cX5_doAirStep 4 = .ok (.getfield 110, 3) := by decide +kernel
theorem dX5_doAirStep_7 : decode cX5_doAirStep 7 = .ok (.iconst 4, 1) := by decide +kernel
theorem dX5_doAirStep_8 : decode cX5_doAirStep 8 = .ok (.iaload, 1) := by decide +kernel
theorem dX5_doAirStep_9 : decode cX5_doAirStep 9 = .ok (.istore_n 1, 1) := by decide +kernel
theorem dX5_doAirStep_10 : decode cX5_doAirStep 10 = .ok (.aload_n 0, 1) := by decide +kernel
theorem dX5_doAirStep_11 : decode cX5_doAirStep 11 = .ok (.getfield 165, 3) := by decide +kernel
theorem dX5_doAirStep_14 : decode cX5_doAirStep 14 = .ok (.ifCond .eq 17, 3) := by decide +kernel
theorem dX5_doAirStep_17 : decode cX5_doAirStep 17 = .ok (.aload_n 0, 1) := by decide +kernel
theorem dX5_doAirStep_18 : decode cX5_doAirStep 18 = .ok (.getfield 19, 3) := by decide +kernel
theorem dX5_doAirStep_21 : decode cX5_doAirStep 21 = .ok (.iconst 4, 1) := by decide +kernel
theorem dX5_doAirStep_22 : decode cX5_doAirStep 22 = .ok (.iload_n 1, 1) := by decide +kernel
theorem dX5_doAirStep_23 : decode cX5_doAirStep 23 = .ok (.iconst 1, 1) := by decide +kernel
theorem dX5_doAirStep_24 : decode cX5_doAirStep 24 = .ok (.iadd, 1) := by decide +kernel
theorem dX5_doAirStep_25 : decode cX5_doAirStep 25 = .ok (.invokevirtual 214, 3) := by decide +kernel
theorem dX5_doAirStep_28 : decode cX5_doAirStep 28 = .ok (.goto 23, 3) := by decide +kernel
theorem dX5_doAirStep_31 : decode cX5_doAirStep 31 = .ok (.aload_n 0, 1) := by decide +kernel
theorem dX5_doAirStep_32 : decode cX5_doAirStep 32 = .ok (.getfield 39, 3) := by decide +kernel
theorem dX5_doAirStep_35 : decode cX5_doAirStep 35 = .ok (.iload_n 1, 1) := by decide +kernel
theorem dX5_doAirStep_36 : decode cX5_doAirStep 36 = .ok (.aload_n 0, 1) := by decide +kernel
theorem dX5_doAirStep_37 : decode cX5_doAirStep 37 = .ok (.getfield 19, 3) := by decide +kernel
theorem dX5_doAirStep_40 : decode cX5_doAirStep 40 = .ok (.getfield 110, 3) := by decide +kernel
theorem dX5_doAirStep_43 : decode cX5_doAirStep 43 = .ok (.iload_n 1, 1) := by decide +kernel
theorem dX5_doAirStep_44 : decode cX5_doAirStep 44 = .ok (.invokestatic 218, 3) := by decide +kernel
theorem dX5_doAirStep_47 : decode cX5_doAirStep 47 = .ok (.iaload, 1) := by decide +kernel
theorem dX5_doAirStep_48 : decode cX5_doAirStep 48 = .ok (.invokevirtual 221, 3) := by decide +kernel
theorem dX5_doAirStep_51 : decode cX5_doAirStep 51 = .ok (.aload_n 0, 1) := by decide +kernel
theorem dX5_doAirStep_52 : decode cX5_doAirStep 52 = .ok (.aload_n 0, 1) := by decide +kernel
theorem dX5_doAirStep_53 : decode cX5_doAirStep 53 = .ok (.getfield 165, 3) := by decide +kernel
theorem dX5_doAirStep_56 : decode cX5_doAirStep 56 = .ok (.ifCond .ne 7, 3) := by decide +kernel
theorem dX5_doAirStep_59 : decode cX5_doAirStep 59 = .ok (.iconst 1, 1) := by decide +kernel
theorem dX5_doAirStep_60 : decode cX5_doAirStep 60 = .ok (.goto 4, 3) := by decide +kernel
theorem dX5_doAirStep_63 : decode cX5_doAirStep 63 = .ok (.iconst 0, 1) := by decide +kernel
theorem dX5_doAirStep_64 : decode cX5_doAirStep 64 = .ok (.putfield 165, 3) := by decide +kernel
theorem dX5_doAirStep_67 : decode cX5_doAirStep 67 = .ok (.return_, 1) := by decide +kernel
theorem dX5_doInstruction_0 : decode cX5_doInstruction 0 = .ok (.iload_n 1, 1) := by decide +kernel
theorem dX5_doInstruction_1 : decode cX5_doInstruction 1 = .ok (.invokestatic 224, 3) := by decide +kernel
theorem dX5_doInstruction_4 : decode cX5_doInstruction 4 = .ok (.istore_n 2, 1) := by decide +kernel
theorem dX5_doInstruction_5 : decode cX5_doInstruction 5 = .ok (.aload_n 0, 1) := by decide +kernel
theorem dX5_doInstruction_6 : decode cX5_doInstruction 6 = .ok (.getfield 32, 3) := by decide +kernel
theorem dX5_doInstruction_9 : decode cX5_doInstruction 9 = .ok (.dup, 1) := by decide +kernel
theorem dX5_doInstruction_10 : decode cX5_doInstruction 10 = .ok (.getfield 141, 3) := by decide +kernel
theorem dX5_doInstruction_13 : decode cX5_doInstruction 13 = .ok (.iconst 1, 1) := by decide +kernel
theorem dX5_doInstruction_14 : decode cX5_doInstruction 14 = .ok (.iadd, 1) := by decide +kernel
theorem dX5_doInstruction_15 : decode cX5_doInstruction 15 = .ok (.putfield 141, 3) := by decide +kernel
theorem dX5_doInstruction_18 : decode cX5_doInstruction 18 = .ok (.iload_n 1, 1) := by decide +kernel
theorem dX5_doInstruction_19 : decode cX5_doInstruction 19 = .ok (.invokestatic 227, 3) := by decide +kernel
theorem dX5_doInstruction_22 : decode cX5_doInstruction 22 = .ok (.lookupswitch 116 #[(0, 34), (16, 69), (17, 83)], 34) := by decide +kernel
theorem dX5_doInstruction_56 : decode cX5_doInstruction 56 = .ok (.aload_n 0, 1) := by decide +kernel
theorem dX5_doInstruction_57 : decode cX5_doInstruction 57 = .ok (.getfield 32, 3) := by decide +kernel
theorem dX5_doInstruction_60 : decode cX5_doInstruction 60 = .ok (.getfield 132, 3) := by decide +kernel
theorem dX5_doInstruction_63 : decode cX5_doInstruction 63 = .ok (.iload_n 2, 1) := by decide +kernel
theorem dX5_doInstruction_64 : decode cX5_doInstruction 64 = .ok (.aload_n 0, 1) := by decide +kernel
theorem dX5_doInstruction_65 : decode cX5_doInstruction 65 = .ok (.getfield 19, 3) := by decide +kernel
theorem dX5_doInstruction_68 : decode cX5_doInstruction 68 = .ok (.getfield 110, 3) := by decide +kernel
theorem dX5_doInstruction_71 : decode cX5_doInstruction 71 = .ok (.iconst 1, 1) := by decide +kernel
theorem dX5_doInstruction_72 : decode cX5_doInstruction 72 = .ok (.iaload, 1) := by decide +kernel
theorem dX5_doInstruction_73 : decode cX5_doInstruction 73 = .ok (.iconst 1, 1) := by decide +kernel
theorem dX5_doInstruction_74 : decode cX5_doInstruction 74 = .ok (.iadd, 1) := by decide +kernel
theorem dX5_doInstruction_75 : decode cX5_doInstruction 75 = .ok (.invokevirtual 230, 3) := by decide +kernel
theorem dX5_doInstruction_78 : decode cX5_doInstruction 78 = .ok (.aload_n 0, 1) := by decide +kernel
theorem dX5_doInstruction_79 : decode cX5_doInstruction 79 = .ok (.iconst 0, 1) := by decide +kernel
theorem dX5_doInstruction_80 : decode cX5_doInstruction 80 = .ok (.putfield 232, 3) := by decide +kernel
theorem dX5_doInstruction_83 : decode cX5_doInstruction 83 = .ok (.aload_n 0, 1) := by decide +kernel
theorem dX5_doInstruction_84 : decode cX5_doInstruction 84 = .ok (.iconst 4, 1) := by decide +kernel
theorem dX5_doInstruction_85 : decode cX5_doInstruction 85 = .ok (.putfield 49, 3) := by decide +kernel
theorem dX5_doInstruction_88 : decode cX5_doInstruction 88 = .ok (.goto 58, 3) := by decide +kernel
theorem dX5_doInstruction_91 : decode cX5_doInstruction 91 = .ok (.aload_n 0, 1) := by decide +kernel
theorem dX5_doInstruction_92 : decode cX5_doInstruction 92 = .ok (.getfield 32, 3) := by decide +kernel
theorem dX5_doInstruction_95 : decode cX5_doInstruction 95 = .ok (.aload_n 0, 1) := by decide +kernel
theorem dX5_doInstruction_96 : decode cX5_doInstruction 96 = .ok (.getfield 89, 3) := by decide +kernel
theorem dX5_doInstruction_99 : decode cX5_doInstruction 99 = .ok (.invokevirtual 235, 3) := by decide +kernel
theorem dX5_doInstruction_102 : decode cX5_doInstruction 102 = .ok (.goto 44, 3) := by decide +kernel
theorem dX5_doInstruction_105 : decode cX5_doInstruction 105 = .ok (.aload_n 0, 1) := by decide +kernel
theorem dX5_doInstruction_106 : decode cX5_doInstruction 106 = .ok (.getfield 32, 3) := by decide +kernel
theorem dX5_doInstruction_109 : decode cX5_doInstruction 109 = .ok (.aload_n 0, 1) := by decide +kernel
theorem dX5_doInstruction_110 : decode cX5_doInstruction 110 = .ok (.getfield 89, 3) := by decide +kernel
theorem dX5_doInstruction_113 : decode cX5_doInstruction 113 = .ok (.iload_n 2, 1) := by decide +kernel
theorem dX5_doInstruction_114 : decode cX5_doInstruction 114 = .ok (.invokevirtual 238, 3) := by decide +kernel
theorem dX5_doInstruction_117 : decode cX5_doInstruction 117 = .ok (.ifCond .eq 29, 3) := by decide +kernel
theorem dX5_doInstruction_120 : decode cX5_doInstruction 120 = .ok (.aload_n 0, 1) := by decide +kernel
theorem dX5_doInstruction_121 : decode cX5_doInstruction 121 = .ok (.dup, 1) := by decide +kernel
theorem dX5_doInstruction_122 : decode cX5_doInstruction 122 = .ok (.getfield 147, 3) := by decide +kernel
theorem dX5_doInstruction_125 : decode cX5_doInstruction 125 = .ok (.iconst 1, 1) := by decide +kernel
theorem dX5_doInstruction_126 : decode cX5_doInstruction 126 = .ok (.iadd, 1) := by decide +kernel
theorem dX5_doInstruction_127 : decode cX5_doInstruction 127 = .ok (.putfield 147, 3) := by decide +kernel
theorem dX5_doInstruction_130 : decode cX5_doInstruction 130 = .ok (.aload_n 0, 1) := by decide +kernel
theorem dX5_doInstruction_131 : decode cX5_doInstruction 131 = .ok (.iconst 2, 1) := by decide +kernel
theorem dX5_doInstruction_132 : decode cX5_doInstruction 132 = .ok (.putfield 49, 3) := by decide +kernel
theorem dX5_doInstruction_135 : decode cX5_doInstruction 135 = .ok (.goto 11, 3) := by decide +kernel
theorem dX5_doInstruction_138 : decode cX5_doInstruction 138 = .ok (.aload_n 0, 1) := by decide +kernel
theorem dX5_doInstruction_139 : decode cX5_doInstruction 139 = .ok (.getfield 32, 3) := by decide +kernel
theorem dX5_doInstruction_142 : decode cX5_doInstruction 142 = .ok (.iload_n 1, 1) := by decide +kernel
theorem dX5_doInstruction_143 : decode cX5_doInstruction 143 = .ok (.invokevirtual 242, 3) := by decide +kernel
theorem dX5_doInstruction_146 : decode cX5_doInstruction 146 = .ok (.return_, 1) := by decide +kernel
theorem dX5_doCommitStep_0 : decode cX5_doCommitStep 0 = .ok (.aload_n 0, 1) := by decide +kernel
theorem dX5_doCommitStep_1 : decode cX5_doCommitStep 1 = .ok (.getfield 32, 3) := by decide +kernel
theorem dX5_doCommitStep_4 : decode cX5_doCommitStep 4 = .ok (.getfield 132, 3) := by decide +kernel
theorem dX5_doCommitStep_7 : decode cX5_doCommitStep 7 = .ok (.invokevirtual 245, 3) := by decide +kernel
theorem dX5_doCommitStep_10 : decode cX5_doCommitStep 10 = .ok (.istore_n 1, 1) := by decide +kernel
theorem dX5_doCommitStep_11 : decode cX5_doCommitStep 11 = .ok (.iconst 2, 1) := by decide +kernel
theorem dX5_doCommitStep_12 : decode cX5_doCommitStep 12 = .ok (.iload_n 1, 1) := by decide +kernel
theorem dX5_doCommitStep_13 : decode cX5_doCommitStep 13 = .ok (.imul, 1) := by decide +kernel
theorem dX5_doCommitStep_14 : decode cX5_doCommitStep 14 = .ok (.istore_n 2, 1) := by decide +kernel
theorem dX5_doCommitStep_15 : decode cX5_doCommitStep 15 = .ok (.aload_n 0, 1) := by decide +kernel
theorem dX5_doCommitStep_16 : decode cX5_doCommitStep 16 = .ok (.getfield 232, 3) := by decide +kernel
theorem dX5_doCommitStep_19 : decode cX5_doCommitStep 19 = .ok (.iload_n 2, 1) := by decide +kernel
theorem dX5_doCommitStep_20 : decode cX5_doCommitStep 20 = .ok (.isub, 1) := by decide +kernel
theorem dX5_doCommitStep_21 : decode cX5_doCommitStep 21 = .ok (.iconst 1, 1) := by decide +kernel
theorem dX5_doCommitStep_22 : decode cX5_doCommitStep 22 = .ok (.isub, 1) := by decide +kernel
theorem dX5_doCommitStep_23 : decode cX5_doCommitStep 23 = .ok (.istore_n 3, 1) := by decide +kernel
theorem dX5_doCommitStep_24 : decode cX5_doCommitStep 24 = .ok (.aload_n 0, 1) := by decide +kernel
theorem dX5_doCommitStep_25 : decode cX5_doCommitStep 25 = .ok (.getfield 232, 3) := by decide +kernel
theorem dX5_doCommitStep_28 : decode cX5_doCommitStep 28 = .ok (.iload_n 2, 1) := by decide +kernel
theorem dX5_doCommitStep_29 : decode cX5_doCommitStep 29 = .ok (.if_icmp .ge 34, 3) := by decide +kernel
theorem dX5_doCommitStep_32 : decode cX5_doCommitStep 32 = .ok (.aload_n 0, 1) := by decide +kernel
theorem dX5_doCommitStep_33 : decode cX5_doCommitStep 33 = .ok (.getfield 19, 3) := by decide +kernel
theorem dX5_doCommitStep_36 : decode cX5_doCommitStep 36 = .ok (.bipush 84, 2) := by decide +kernel
theorem dX5_doCommitStep_38 : decode cX5_doCommitStep 38 = .ok (.aload_n 0, 1) := by decide +kernel
theorem dX5_doCommitStep_39 : decode cX5_doCommitStep 39 = .ok (.getfield 232, 3) := by decide +kernel
theorem dX5_doCommitStep_42 : decode cX5_doCommitStep 42 = .ok (.iadd, 1) := by decide +kernel
theorem dX5_doCommitStep_43 : decode cX5_doCommitStep 43 = .ok (.aload_n 0, 1) := by decide +kernel
theorem dX5_doCommitStep_44 : decode cX5_doCommitStep 44 = .ok (.getfield 32, 3) := by decide +kernel
theorem dX5_doCommitStep_47 : decode cX5_doCommitStep 47 = .ok (.getfield 132, 3) := by decide +kernel
theorem dX5_doCommitStep_50 : decode cX5_doCommitStep 50 = .ok (.aload_n 0, 1) := by decide +kernel
theorem dX5_doCommitStep_51 : decode cX5_doCommitStep 51 = .ok (.getfield 232, 3) := by decide +kernel
theorem dX5_doCommitStep_54 : decode cX5_doCommitStep 54 = .ok (.invokevirtual 248, 3) := by decide +kernel
theorem dX5_doCommitStep_57 : decode cX5_doCommitStep 57 = .ok (.invokevirtual 214, 3) := by decide +kernel
theorem dX5_doCommitStep_60 : decode cX5_doCommitStep 60 = .ok (.goto 52, 3) := by decide +kernel
theorem dX5_doCommitStep_63 : decode cX5_doCommitStep 63 = .ok (.aload_n 0, 1) := by decide +kernel
theorem dX5_doCommitStep_64 : decode cX5_doCommitStep 64 = .ok (.getfield 232, 3) := by decide +kernel
theorem dX5_doCommitStep_67 : decode cX5_doCommitStep 67 = .ok (.iload_n 2, 1) := by decide +kernel
theorem dX5_doCommitStep_68 : decode cX5_doCommitStep 68 = .ok (.if_icmp .ne 15, 3) := by decide +kernel
theorem dX5_doCommitStep_71 : decode cX5_doCommitStep 71 = .ok (.aload_n 0, 1) := by decide +kernel
theorem dX5_doCommitStep_72 : decode cX5_doCommitStep 72 = .ok (.getfield 19, 3) := by decide +kernel
theorem dX5_doCommitStep_75 : decode cX5_doCommitStep 75 = .ok (.iconst 2, 1) := by decide +kernel
theorem dX5_doCommitStep_76 : decode cX5_doCommitStep 76 = .ok (.iload_n 1, 1) := by decide +kernel
theorem dX5_doCommitStep_77 : decode cX5_doCommitStep 77 = .ok (.invokevirtual 214, 3) := by decide +kernel
theorem dX5_doCommitStep_80 : decode cX5_doCommitStep 80 = .ok (.goto 32, 3) := by decide +kernel
theorem dX5_doCommitStep_83 : decode cX5_doCommitStep 83 = .ok (.iload_n 3, 1) := by decide +kernel
theorem dX5_doCommitStep_84 : decode cX5_doCommitStep 84 = .ok (.iload_n 1, 1) := by decide +kernel
theorem dX5_doCommitStep_85 : decode cX5_doCommitStep 85 = .ok (.if_icmp .ge 14, 3) := by decide +kernel
theorem dX5_doCommitStep_88 : decode cX5_doCommitStep 88 = .ok (.aload_n 0, 1) := by decide +kernel
theorem dX5_doCommitStep_89 : decode cX5_doCommitStep 89 = .ok (.getfield 19, 3) := by decide +kernel
theorem dX5_doCommitStep_92 : decode cX5_doCommitStep 92 = .ok (.iload_n 3, 1) := by decide +kernel
theorem dX5_doCommitStep_93 : decode cX5_doCommitStep 93 = .ok (.invokevirtual 211, 3) := by decide +kernel
theorem dX5_doCommitStep_96 : decode cX5_doCommitStep 96 = .ok (.goto 16, 3) := by decide +kernel
theorem dX5_doCommitStep_99 : decode cX5_doCommitStep 99 = .ok (.aload_n 0, 1) := by decide +kernel
theorem dX5_doCommitStep_100 : decode cX5_doCommitStep 100 = .ok (.getfield 19, 3) := by decide +kernel
theorem dX5_doCommitStep_103 : decode cX5_doCommitStep 103 = .ok (.iconst 2, 1) := by decide +kernel
theorem dX5_doCommitStep_104 : decode cX5_doCommitStep 104 = .ok (.iconst 0, 1) := by decide +kernel
theorem dX5_doCommitStep_105 : decode cX5_doCommitStep 105 = .ok (.invokevirtual 214, 3) := by decide +kernel
theorem dX5_doCommitStep_108 : decode cX5_doCommitStep 108 = .ok (.aload_n 0, 1) := by decide +kernel
theorem dX5_doCommitStep_109 : decode cX5_doCommitStep 109 = .ok (.invokevirtual 251, 3) := by decide +kernel
theorem dX5_doCommitStep_112 : decode cX5_doCommitStep 112 = .ok (.aload_n 0, 1) := by decide +kernel
theorem dX5_doCommitStep_113 : decode cX5_doCommitStep 113 = .ok (.dup, 1) := by decide +kernel
theorem dX5_doCommitStep_114 : decode cX5_doCommitStep 114 = .ok (.getfield 232, 3) := by decide +kernel
theorem dX5_doCommitStep_117 : decode cX5_doCommitStep 117 = .ok (.iconst 1, 1) := by decide +kernel
theorem dX5_doCommitStep_118 : decode cX5_doCommitStep 118 = .ok (.iadd, 1) := by decide +kernel
theorem dX5_doCommitStep_119 : decode cX5_doCommitStep 119 = .ok (.putfield 232, 3) := by decide +kernel
theorem dX5_doCommitStep_122 : decode cX5_doCommitStep 122 = .ok (.return_, 1) := by decide +kernel
theorem dX5_finishAttempt_0 : decode cX5_finishAttempt 0 = .ok (.aload_n 0, 1) := by decide +kernel
theorem dX5_finishAttempt_1 : decode cX5_finishAttempt 1 = .ok (.getfield 32, 3) := by decide +kernel
theorem dX5_finishAttempt_4 : decode cX5_finishAttempt 4 = .ok (.getfield 205, 3) := by decide +kernel
theorem dX5_finishAttempt_7 : decode cX5_finishAttempt 7 = .ok (.istore_n 1, 1) := by decide +kernel
theorem dX5_finishAttempt_8 : decode cX5_finishAttempt 8 = .ok (.aload_n 0, 1) := by decide +kernel
theorem dX5_finishAttempt_9 : decode cX5_finishAttempt 9 = .ok (.getfield 43, 3) := by decide +kernel
theorem dX5_finishAttempt_12 : decode cX5_finishAttempt 12 = .ok (.iload_n 1, 1) := by decide +kernel
theorem dX5_finishAttempt_13 : decode cX5_finishAttempt 13 = .ok (.aload_n 0, 1) := by decide +kernel
theorem dX5_finishAttempt_14 : decode cX5_finishAttempt 14 = .ok (.getfield 43, 3) := by decide +kernel
theorem dX5_finishAttempt_17 : decode cX5_finishAttempt 17 = .ok (.iload_n 1, 1) := by decide +kernel
theorem dX5_finishAttempt_18 : decode cX5_finishAttempt 18 = .ok (.iaload, 1) := by decide +kernel
theorem dX5_finishAttempt_19 : decode cX5_finishAttempt 19 = .ok (.aload_n 0, 1) := by decide +kernel
theorem dX5_finishAttempt_20 : decode cX5_finishAttempt 20 = .ok (.getfield 32, 3) := by decide +kernel
theorem dX5_finishAttempt_23 : decode cX5_finishAttempt 23 = .ok (.getfield 129, 3) := by decide +kernel
theorem dX5_finishAttempt_26 : decode cX5_finishAttempt 26 = .ok (.invokestatic 254, 3) := by decide +kernel
theorem dX5_finishAttempt_29 : decode cX5_finishAttempt 29 = .ok (.iastore, 1) := by decide +kernel
theorem dX5_finishAttempt_30 : decode cX5_finishAttempt 30 = .ok (.aload_n 0, 1) := by decide +kernel
theorem dX5_finishAttempt_31 : decode cX5_finishAttempt 31 = .ok (.getfield 46, 3) := by decide +kernel
theorem dX5_finishAttempt_34 : decode cX5_finishAttempt 34 = .ok (.iload_n 1, 1) := by decide +kernel
theorem dX5_finishAttempt_35 : decode cX5_finishAttempt 35 = .ok (.iconst 0, 1) := by decide +kernel
theorem dX5_finishAttempt_36 : decode cX5_finishAttempt 36 = .ok (.iastore, 1) := by decide +kernel
theorem dX5_finishAttempt_37 : decode cX5_finishAttempt 37 = .ok (.aload_n 0, 1) := by decide +kernel
theorem dX5_finishAttempt_38 : decode cX5_finishAttempt 38 = .ok (.iconst 2, 1) := by decide +kernel
theorem dX5_finishAttempt_39 : decode cX5_finishAttempt 39 = .ok (.putfield 49, 3) := by decide +kernel
theorem dX5_finishAttempt_42 : decode cX5_finishAttempt 42 = .ok (.return_, 1) := by decide +kernel
theorem dX5_failPower_0 : decode cX5_failPower 0 = .ok (.aload_n 0, 1) := by decide +kernel
theorem dX5_failPower_1 : decode cX5_failPower 1 = .ok (.getfield 49, 3) := by decide +kernel
theorem dX5_failPower_4 : decode cX5_failPower 4 = .ok (.iconst 3, 1) := by decide +kernel
theorem dX5_failPower_5 : decode cX5_failPower 5 = .ok (.if_icmp .eq 23, 3) := by decide +kernel
theorem dX5_failPower_8 : decode cX5_failPower 8 = .ok (.aload_n 0, 1) := by decide +kernel
theorem dX5_failPower_9 : decode cX5_failPower 9 = .ok (.getfield 49, 3) := by decide +kernel
theorem dX5_failPower_12 : decode cX5_failPower 12 = .ok (.iconst 4, 1) := by decide +kernel
theorem dX5_failPower_13 : decode cX5_failPower 13 = .ok (.if_icmp .ne 19, 3) := by decide +kernel
theorem dX5_failPower_16 : decode cX5_failPower 16 = .ok (.aload_n 0, 1) := by decide +kernel
theorem dX5_failPower_17 : decode cX5_failPower 17 = .ok (.getfield 19, 3) := by decide +kernel
theorem dX5_failPower_20 : decode cX5_failPower 20 = .ok (.getfield 110, 3) := by decide +kernel
theorem dX5_failPower_23 : decode cX5_failPower 23 = .ok (.iconst 2, 1) := by decide +kernel
theorem dX5_failPower_24 : decode cX5_failPower 24 = .ok (.iaload, 1) := by decide +kernel
theorem dX5_failPower_25 : decode cX5_failPower 25 = .ok (.ifCond .ne 7, 3) := by decide +kernel
theorem dX5_failPower_28 : decode cX5_failPower 28 = .ok (.aload_n 0, 1) := by decide +kernel
theorem dX5_failPower_29 : decode cX5_failPower 29 = .ok (.invokevirtual 257, 3) := by decide +kernel
theorem dX5_failPower_32 : decode cX5_failPower 32 = .ok (.aload_n 0, 1) := by decide +kernel
theorem dX5_failPower_33 : decode cX5_failPower 33 = .ok (.dup, 1) := by decide +kernel
theorem dX5_failPower_34 : decode cX5_failPower 34 = .ok (.getfield 144, 3) := by decide +kernel
theorem dX5_failPower_37 : decode cX5_failPower 37 = .ok (.iconst 1, 1) := by decide +kernel
theorem dX5_failPower_38 : decode cX5_failPower 38 = .ok (.iadd, 1) := by decide +kernel
theorem dX5_failPower_39 : decode cX5_failPower 39 = .ok (.putfield 144, 3) := by decide +kernel
theorem dX5_failPower_42 : decode cX5_failPower 42 = .ok (.aload_n 0, 1) := by decide +kernel
theorem dX5_failPower_43 : decode cX5_failPower 43 = .ok (.iconst 0, 1) := by decide +kernel
theorem dX5_failPower_44 : decode cX5_failPower 44 = .ok (.putfield 49, 3) := by decide +kernel
theorem dX5_failPower_47 : decode cX5_failPower 47 = .ok (.return_, 1) := by decide +kernel
theorem dX5_countFailure_0 : decode cX5_countFailure 0 = .ok (.aload_n 0, 1) := by decide +kernel
theorem dX5_countFailure_1 : decode cX5_countFailure 1 = .ok (.getfield 32, 3) := by decide +kernel
theorem dX5_countFailure_4 : decode cX5_countFailure 4 = .ok (.getfield 205, 3) := by decide +kernel
theorem dX5_countFailure_7 : decode cX5_countFailure 7 = .ok (.istore_n 1, 1) := by decide +kernel
theorem dX5_countFailure_8 : decode cX5_countFailure 8 = .ok (.aload_n 0, 1) := by decide +kernel
theorem dX5_countFailure_9 : decode cX5_countFailure 9 = .ok (.getfield 46, 3) := by decide +kernel
theorem dX5_countFailure_12 : decode cX5_countFailure 12 = .ok (.iload_n 1, 1) := by decide +kernel
theorem dX5_countFailure_13 : decode cX5_countFailure 13 = .ok (.dup2, 1) := by decide +kernel
theorem dX5_countFailure_14 : decode cX5_countFailure 14 = .ok (.iaload, 1) := by decide +kernel
theorem dX5_countFailure_15 : decode cX5_countFailure 15 = .ok (.iconst 1, 1) := by decide +kernel
theorem dX5_countFailure_16 : decode cX5_countFailure 16 = .ok (.iadd, 1) := by decide +kernel
theorem dX5_countFailure_17 : decode cX5_countFailure 17 = .ok (.iastore, 1) := by decide +kernel
theorem dX5_countFailure_18 : decode cX5_countFailure 18 = .ok (.iconst 2, 1) := by decide +kernel
theorem dX5_countFailure_19 : decode cX5_countFailure 19 = .ok (.aload_n 0, 1) := by decide +kernel
theorem dX5_countFailure_20 : decode cX5_countFailure 20 = .ok (.getfield 43, 3) := by decide +kernel
theorem dX5_countFailure_23 : decode cX5_countFailure 23 = .ok (.iload_n 1, 1) := by decide +kernel
theorem dX5_countFailure_24 : decode cX5_countFailure 24 = .ok (.iaload, 1) := by decide +kernel
theorem dX5_countFailure_25 : decode cX5_countFailure 25 = .ok (.aload_n 0, 1) := by decide +kernel
theorem dX5_countFailure_26 : decode cX5_countFailure 26 = .ok (.getfield 32, 3) := by decide +kernel
theorem dX5_countFailure_29 : decode cX5_countFailure 29 = .ok (.getfield 129, 3) := by decide +kernel
theorem dX5_countFailure_32 : decode cX5_countFailure 32 = .ok (.invokestatic 254, 3) := by decide +kernel
theorem dX5_countFailure_35 : decode cX5_countFailure 35 = .ok (.imul, 1) := by decide +kernel
theorem dX5_countFailure_36 : decode cX5_countFailure 36 = .ok (.istore_n 2, 1) := by decide +kernel
theorem dX5_countFailure_37 : decode cX5_countFailure 37 = .ok (.aload_n 0, 1) := by decide +kernel
theorem dX5_countFailure_38 : decode cX5_countFailure 38 = .ok (.getfield 43, 3) := by decide +kernel
theorem dX5_countFailure_41 : decode cX5_countFailure 41 = .ok (.iload_n 1, 1) := by decide +kernel
theorem dX5_countFailure_42 : decode cX5_countFailure 42 = .ok (.sipush 1940, 3) := by decide +kernel
theorem dX5_countFailure_45 : decode cX5_countFailure 45 = .ok (.iload_n 2, 1) := by decide +kernel
theorem dX5_countFailure_46 : decode cX5_countFailure 46 = .ok (.invokestatic 83, 3) := by decide +kernel
theorem dX5_countFailure_49 : decode cX5_countFailure 49 = .ok (.iastore, 1) := by decide +kernel
theorem dX5_countFailure_50 : decode cX5_countFailure 50 = .ok (.aload_n 0, 1) := by decide +kernel
theorem dX5_countFailure_51 : decode cX5_countFailure 51 = .ok (.getfield 46, 3) := by decide +kernel
theorem dX5_countFailure_54 : decode cX5_countFailure 54 = .ok (.iload_n 1, 1) := by decide +kernel
theorem dX5_countFailure_55 : decode cX5_countFailure 55 = .ok (.iaload, 1) := by decide +kernel
theorem dX5_countFailure_56 : decode cX5_countFailure 56 = .ok (.bipush 12, 2) := by decide +kernel
theorem dX5_countFailure_58 : decode cX5_countFailure 58 = .ok (.if_icmp .lt 8, 3) := by decide +kernel
theorem dX5_countFailure_61 : decode cX5_countFailure 61 = .ok (.aload_n 0, 1) := by decide +kernel
theorem dX5_countFailure_62 : decode cX5_countFailure 62 = .ok (.iload_n 1, 1) := by decide +kernel
theorem dX5_countFailure_63 : decode cX5_countFailure 63 = .ok (.putfield 53, 3) := by decide +kernel
theorem dX5_countFailure_66 : decode cX5_countFailure 66 = .ok (.return_, 1) := by decide +kernel
theorem dL_slot_0 : decode cL_slot 0 = .ok (.aload_n 2, 1) := by decide +kernel
theorem dL_slot_1 : decode cL_slot 1 = .ok (.iconst 0, 1) := by decide +kernel
theorem dL_slot_2 : decode cL_slot 2 = .ok (.aload_n 0, 1) := by decide +kernel
theorem dL_slot_3 : decode cL_slot 3 = .ok (.iload_n 1, 1) := by decide +kernel
theorem dL_slot_4 : decode cL_slot 4 = .ok (.invokevirtual 7, 3) := by decide +kernel
theorem dL_slot_7 : decode cL_slot 7 = .ok (.i2l, 1) := by decide +kernel
theorem dL_slot_8 : decode cL_slot 8 = .ok (.lastore, 1) := by decide +kernel
theorem dL_slot_9 : decode cL_slot 9 = .ok (.goto 9, 3) := by decide +kernel
theorem dL_slot_12 : decode cL_slot 12 = .ok (.astore_n 3, 1) := by decide +kernel
theorem dL_slot_13 : decode cL_slot 13 = .ok (.iconst 1, 1) := by decide +kernel
theorem dL_slot_14 : decode cL_slot 14 = .ok (.ireturn, 1) := by decide +kernel
theorem dL_slot_15 : decode cL_slot 15 = .ok (.astore_n 3, 1) := by decide +kernel
theorem dL_slot_16 : decode cL_slot 16 = .ok (.iconst 2, 1) := by decide +kernel
theorem dL_slot_17 : decode cL_slot 17 = .ok (.ireturn, 1) := by decide +kernel
theorem dL_slot_18 : decode cL_slot 18 = .ok (.iconst 0, 1) := by decide +kernel
theorem dL_slot_19 : decode cL_slot 19 = .ok (.ireturn, 1) := by decide +kernel
theorem dL_kept_0 : decode cL_kept 0 = .ok (.aload_n 3, 1) := by decide +kernel
theorem dL_kept_1 : decode cL_kept 1 = .ok (.iconst 0, 1) := by decide +kernel
theorem dL_kept_2 : decode cL_kept 2 = .ok (.aload_n 0, 1) := by decide +kernel
theorem dL_kept_3 : decode cL_kept 3 = .ok (.iload_n 1, 1) := by decide +kernel
theorem dL_kept_4 : decode cL_kept 4 = .ok (.iload_n 2, 1) := by decide +kernel
theorem dL_kept_5 : decode cL_kept 5 = .ok (.invokevirtual 17, 3) := by decide +kernel
theorem dL_kept_8 : decode cL_kept 8 = .ok (.i2l, 1) := by decide +kernel
theorem dL_kept_9 : decode cL_kept 9 = .ok (.lastore, 1) := by decide +kernel
theorem dL_kept_10 : decode cL_kept 10 = .ok (.goto 7, 3) := by decide +kernel
theorem dL_kept_13 : decode cL_kept 13 = .ok (.astore 4, 2) := by decide +kernel
theorem dL_kept_15 : decode cL_kept 15 = .ok (.iconst 1, 1) := by decide +kernel
theorem dL_kept_16 : decode cL_kept 16 = .ok (.ireturn, 1) := by decide +kernel
theorem dL_kept_17 : decode cL_kept 17 = .ok (.iconst 0, 1) := by decide +kernel
theorem dL_kept_18 : decode cL_kept 18 = .ok (.ireturn, 1) := by decide +kernel
theorem dL_heard_0 : decode cL_heard 0 = .ok (.aload_n 2, 1) := by decide +kernel
theorem dL_heard_1 : decode cL_heard 1 = .ok (.iconst 0, 1) := by decide +kernel
theorem dL_heard_2 : decode cL_heard 2 = .ok (.aload_n 0, 1) := by decide +kernel
theorem dL_heard_3 : decode cL_heard 3 = .ok (.iload_n 1, 1) := by decide +kernel
theorem dL_heard_4 : decode cL_heard 4 = .ok (.invokevirtual 23, 3) := by decide +kernel
theorem dL_heard_7 : decode cL_heard 7 = .ok (.i2l, 1) := by decide +kernel
theorem dL_heard_8 : decode cL_heard 8 = .ok (.lastore, 1) := by decide +kernel
theorem dL_heard_9 : decode cL_heard 9 = .ok (.goto 6, 3) := by decide +kernel
theorem dL_heard_12 : decode cL_heard 12 = .ok (.astore_n 3, 1) := by decide +kernel
theorem dL_heard_13 : decode cL_heard 13 = .ok (.iconst 1, 1) := by decide +kernel
theorem dL_heard_14 : decode cL_heard 14 = .ok (.ireturn, 1) := by decide +kernel
theorem dL_heard_15 : decode cL_heard 15 = .ok (.iconst 0, 1) := by decide +kernel
theorem dL_heard_16 : decode cL_heard 16 = .ok (.ireturn, 1) := by decide +kernel
theorem dL_law_0 : decode cL_law 0 = .ok (.new 8, 3) := by decide +kernel
theorem dL_law_3 : decode cL_law 3 = .ok (.dup, 1) := by decide +kernel
theorem dL_law_4 : decode cL_law 4 = .ok (.invokespecial 26, 3) := by decide +kernel
theorem dL_law_7 : decode cL_law 7 = .ok (.astore_n 1, 1) := by decide +kernel
theorem dL_law_8 : decode cL_law 8 = .ok (.new 27, 3) := by decide +kernel
theorem dL_law_11 : decode cL_law 11 = .ok (.dup, 1) := by decide +kernel
theorem dL_law_12 : decode cL_law 12 = .ok (.invokespecial 29, 3) := by decide +kernel
theorem dL_law_15 : decode cL_law 15 = .ok (.astore_n 2, 1) := by decide +kernel
theorem dL_law_16 : decode cL_law 16 = .ok (.iconst 1, 1) := by decide +kernel
theorem dL_law_17 : decode cL_law 17 = .ok (.newarray .long, 2) := by decide +kernel
theorem dL_law_19 : decode cL_law 19 = .ok (.astore_n 3, 1) := by decide +kernel
theorem dL_law_20 : decode cL_law 20 = .ok (.iconst 0, 1) := by decide +kernel
theorem dL_law_21 : decode cL_law 21 = .ok (.istore 4, 2) := by decide +kernel
theorem dL_law_23 : decode cL_law 23 = .ok (.iload 4, 2) := by decide +kernel
theorem dL_law_25 : decode cL_law 25 = .ok (.aload_n 0, 1) := by decide +kernel
theorem dL_law_26 : decode cL_law 26 = .ok (.arraylength, 1) := by decide +kernel
theorem dL_law_27 : decode cL_law 27 = .ok (.iconst 4, 1) := by decide +kernel
theorem dL_law_28 : decode cL_law 28 = .ok (.isub, 1) := by decide +kernel
theorem dL_law_29 : decode cL_law 29 = .ok (.if_icmp .gt 517, 3) := by decide +kernel
theorem dL_law_32 : decode cL_law 32 = .ok (.aload_n 0, 1) := by decide +kernel
theorem dL_law_33 : decode cL_law 33 = .ok (.iload 4, 2) := by decide +kernel
theorem dL_law_35 : decode cL_law 35 = .ok (.iaload, 1) := by decide +kernel
theorem dL_law_36 : decode cL_law 36 = .ok (.bipush 15, 2) := by decide +kernel
theorem dL_law_38 : decode cL_law 38 = .ok (.iand, 1) := by decide +kernel
theorem dL_law_39 : decode cL_law 39 = .ok (.tableswitch 501 0 10 #[57, 106, 119, 175, 200, 237, 321, 358, 414, 439, 476], 57) := by decide +kernel
theorem dL_law_96 : decode cL_law 96 = .ok (.aload_n 1, 1) := by decide +kernel
theorem dL_law_97 : decode cL_law 97 = .ok (.aload_n 0, 1) := by decide +kernel
theorem dL_law_98 : decode cL_law 98 = .ok (.iload 4, 2) := by decide +kernel
theorem dL_law_100 : decode cL_law 100 = .ok (.iconst 1, 1) := by decide +kernel
theorem dL_law_101 : decode cL_law 101 = .ok (.iadd, 1) := by decide +kernel
theorem dL_law_102 : decode cL_law 102 = .ok (.iaload, 1) := by decide +kernel
theorem dL_law_103 : decode cL_law 103 = .ok (.aload_n 0, 1) := by decide +kernel
theorem dL_law_104 : decode cL_law 104 = .ok (.iload 4, 2) := by decide +kernel
theorem dL_law_106 : decode cL_law 106 = .ok (.iconst 2, 1) := by decide +kernel
theorem dL_law_107 : decode cL_law 107 = .ok (.iadd, 1) := by decide +kernel
theorem dL_law_108 : decode cL_law 108 = .ok (.iaload, 1) := by decide +kernel
theorem dL_law_109 : decode cL_law 109 = .ok (.aload_n 0, 1) := by decide +kernel
theorem dL_law_110 : decode cL_law 110 = .ok (.iload 4, 2) := by decide +kernel
theorem dL_law_112 : decode cL_law 112 = .ok (.iconst 3, 1) := by decide +kernel
theorem dL_law_113 : decode cL_law 113 = .ok (.iadd, 1) := by decide +kernel
theorem dL_law_114 : decode cL_law 114 = .ok (.iaload, 1) := by decide +kernel
theorem dL_law_115 : decode cL_law 115 = .ok (.invokevirtual 30, 3) := by decide +kernel
theorem dL_law_118 : decode cL_law 118 = .ok (.aload_n 2, 1) := by decide +kernel
theorem dL_law_119 : decode cL_law 119 = .ok (.aload_n 0, 1) := by decide +kernel
theorem dL_law_120 : decode cL_law 120 = .ok (.iload 4, 2) := by decide +kernel
theorem dL_law_122 : decode cL_law 122 = .ok (.iconst 1, 1) := by decide +kernel
theorem dL_law_123 : decode cL_law 123 = .ok (.iadd, 1) := by decide +kernel
theorem dL_law_124 : decode cL_law 124 = .ok (.iaload, 1) := by decide +kernel
theorem dL_law_125 : decode cL_law 125 = .ok (.aload_n 0, 1) := by decide +kernel
theorem dL_law_126 : decode cL_law 126 = .ok (.iload 4, 2) := by decide +kernel
theorem dL_law_128 : decode cL_law 128 = .ok (.iconst 2, 1) := by decide +kernel
theorem dL_law_129 : decode cL_law 129 = .ok (.iadd, 1) := by decide +kernel
theorem dL_law_130 : decode cL_law 130 = .ok (.iaload, 1) := by decide +kernel
theorem dL_law_131 : decode cL_law 131 = .ok (.aload_n 0, 1) := by decide +kernel
theorem dL_law_132 : decode cL_law 132 = .ok (.iload 4, 2) := by decide +kernel
theorem dL_law_134 : decode cL_law 134 = .ok (.iconst 3, 1) := by decide +kernel
theorem dL_law_135 : decode cL_law 135 = .ok (.iadd, 1) := by decide +kernel
theorem dL_law_136 : decode cL_law 136 = .ok (.iaload, 1) := by decide +kernel
theorem dL_law_137 : decode cL_law 137 = .ok (.invokevirtual 34, 3) := by decide +kernel
theorem dL_law_140 : decode cL_law 140 = .ok (.if_icmp .eq 400, 3) := by decide +kernel
theorem dL_law_143 : decode cL_law 143 = .ok (.iconst 0, 1) := by decide +kernel
theorem dL_law_144 : decode cL_law 144 = .ok (.ireturn, 1) := by decide +kernel
theorem dL_law_145 : decode cL_law 145 = .ok (.aload_n 1, 1) := by decide +kernel
theorem dL_law_146 : decode cL_law 146 = .ok (.invokevirtual 35, 3) := by decide +kernel
theorem dL_law_149 : decode cL_law 149 = .ok (.aload_n 2, 1) := by decide +kernel
theorem dL_law_150 : decode cL_law 150 = .ok (.invokevirtual 39, 3) := by decide +kernel
theorem dL_law_153 : decode cL_law 153 = .ok (.if_icmp .eq 387, 3) := by decide +kernel
theorem dL_law_156 : decode cL_law 156 = .ok (.iconst 0, 1) := by decide +kernel
theorem dL_law_157 : decode cL_law 157 = .ok (.ireturn, 1) := by decide +kernel
theorem dL_law_158 : decode cL_law 158 = .ok (.aload_n 1, 1) := by decide +kernel
theorem dL_law_159 : decode cL_law 159 = .ok (.aload_n 0, 1) := by decide +kernel
theorem dL_law_160 : decode cL_law 160 = .ok (.iload 4, 2) := by decide +kernel
theorem dL_law_162 : decode cL_law 162 = .ok (.iconst 1, 1) := by decide +kernel
theorem dL_law_163 : decode cL_law 163 = .ok (.iadd, 1) := by decide +kernel
theorem dL_law_164 : decode cL_law 164 = .ok (.iaload, 1) := by decide +kernel
theorem dL_law_165 : decode cL_law 165 = .ok (.aload_n 3, 1) := by decide +kernel
theorem dL_law_166 : decode cL_law 166 = .ok (.invokestatic 40, 3) := by decide +kernel
theorem dL_law_169 : decode cL_law 169 = .ok (.istore 5, 2) := by decide +kernel
theorem dL_law_171 : decode cL_law 171 = .ok (.aload_n 2, 1) := by decide +kernel
theorem dL_law_172 : decode cL_law 172 = .ok (.aload_n 0, 1) := by decide +kernel
theorem dL_law_173 : decode cL_law 173 = .ok (.iload 4, 2) := by decide +kernel
theorem dL_law_175 : decode cL_law 175 = .ok (.iconst 1, 1) := by decide +kernel
theorem dL_law_176 : decode cL_law 176 = .ok (.iadd, 1) := by decide +kernel
theorem dL_law_177 : decode cL_law 177 = .ok (.iaload, 1) := by decide +kernel
theorem dL_law_178 : decode cL_law 178 = .ok (.invokevirtual 45, 3) := by decide +kernel
theorem dL_law_181 : decode cL_law 181 = .ok (.istore 6, 2) := by decide +kernel
theorem dL_law_183 : decode cL_law 183 = .ok (.aload_n 2, 1) := by decide +kernel
theorem dL_law_184 : decode cL_law 184 = .ok (.invokevirtual 46, 3) := by decide +kernel
theorem dL_law_187 : decode cL_law 187 = .ok (.iload 5, 2) := by decide +kernel
theorem dL_law_189 : decode cL_law 189 = .ok (.if_icmp .eq 5, 3) := by decide +kernel
theorem dL_law_192 : decode cL_law 192 = .ok (.iconst 0, 1) := by decide +kernel
theorem dL_law_193 : decode cL_law 193 = .ok (.ireturn, 1) := by decide +kernel
theorem dL_law_194 : decode cL_law 194 = .ok (.iload 5, 2) := by decide +kernel
theorem dL_law_196 : decode cL_law 196 = .ok (.ifCond .ne 15, 3) := by decide +kernel
theorem dL_law_199 : decode cL_law 199 = .ok (.aload_n 3, 1) := by decide +kernel
theorem dL_law_200 : decode cL_law 200 = .ok (.iconst 0, 1) := by decide +kernel
theorem dL_law_201 : decode cL_law 201 = .ok (.laload, 1) := by decide +kernel
theorem dL_law_202 : decode cL_law 202 = .ok (.iload 6, 2) := by decide +kernel
theorem dL_law_204 : decode cL_law 204 = .ok (.i2l, 1) := by decide +kernel
theorem dL_law_205 : decode cL_law 205 = .ok (.lcmp, 1) := by decide +kernel
theorem dL_law_206 : decode cL_law 206 = .ok (.ifCond .eq 5, 3) := by decide +kernel
theorem dL_law_209 : decode cL_law 209 = .ok (.iconst 0, 1) := by decide +kernel
theorem dL_law_210 : decode cL_law 210 = .ok (.ireturn, 1) := by decide +kernel
theorem dL_law_211 : decode cL_law 211 = .ok (.goto 329, 3) := by decide +kernel
theorem dL_law_214 : decode cL_law 214 = .ok (.aload_n 1, 1) := by decide +kernel
theorem dL_law_215 : decode cL_law 215 = .ok (.aload_n 0, 1) := by decide +kernel
theorem dL_law_216 : decode cL_law 216 = .ok (.iload 4, 2) := by decide +kernel
theorem dL_law_218 : decode cL_law 218 = .ok (.iconst 1, 1) := by decide +kernel
theorem dL_law_219 : decode cL_law 219 = .ok (.iadd, 1) := by decide +kernel
theorem dL_law_220 : decode cL_law 220 = .ok (.iaload, 1) := by decide +kernel
theorem dL_law_221 : decode cL_law 221 = .ok (.invokevirtual 49, 3) := by decide +kernel
theorem dL_law_224 : decode cL_law 224 = .ok (.aload_n 2, 1) := by decide +kernel
theorem dL_law_225 : decode cL_law 225 = .ok (.aload_n 0, 1) := by decide +kernel
theorem dL_law_226 : decode cL_law 226 = .ok (.iload 4, 2) := by decide +kernel
theorem dL_law_228 : decode cL_law 228 = .ok (.iconst 1, 1) := by decide +kernel
theorem dL_law_229 : decode cL_law 229 = .ok (.iadd, 1) := by decide +kernel
theorem dL_law_230 : decode cL_law 230 = .ok (.iaload, 1) := by decide +kernel
theorem dL_law_231 : decode cL_law 231 = .ok (.invokevirtual 53, 3) := by decide +kernel
theorem dL_law_234 : decode cL_law 234 = .ok (.if_icmp .eq 306, 3) := by decide +kernel
theorem dL_law_237 : decode cL_law 237 = .ok (.iconst 0, 1) := by decide +kernel
theorem dL_law_238 : decode cL_law 238 = .ok (.ireturn, 1) := by decide +kernel
theorem dL_law_239 : decode cL_law 239 = .ok (.aload_n 1, 1) := by decide +kernel
theorem dL_law_240 : decode cL_law 240 = .ok (.aload_n 0, 1) := by decide +kernel
theorem dL_law_241 : decode cL_law 241 = .ok (.iload 4, 2) := by decide +kernel
theorem dL_law_243 : decode cL_law 243 = .ok (.iconst 1, 1) := by decide +kernel
theorem dL_law_244 : decode cL_law 244 = .ok (.iadd, 1) := by decide +kernel
theorem dL_law_245 : decode cL_law 245 = .ok (.iaload, 1) := by decide +kernel
theorem dL_law_246 : decode cL_law 246 = .ok (.aload_n 0, 1) := by decide +kernel
theorem dL_law_247 : decode cL_law 247 = .ok (.iload 4, 2) := by decide +kernel
theorem dL_law_249 : decode cL_law 249 = .ok (.iconst 2, 1) := by decide +kernel
theorem dL_law_250 : decode cL_law 250 = .ok (.iadd, 1) := by decide +kernel
theorem dL_law_251 : decode cL_law 251 = .ok (.iaload, 1) := by decide +kernel
theorem dL_law_252 : decode cL_law 252 = .ok (.invokevirtual 54, 3) := by decide +kernel
theorem dL_law_255 : decode cL_law 255 = .ok (.aload_n 2, 1) := by decide +kernel
theorem dL_law_256 : decode cL_law 256 = .ok (.aload_n 0, 1) := by decide +kernel
theorem dL_law_257 : decode cL_law 257 = .ok (.iload 4, 2) := by decide +kernel
theorem dL_law_259 : decode cL_law 259 = .ok (.iconst 1, 1) := by decide +kernel
theorem dL_law_260 : decode cL_law 260 = .ok (.iadd, 1) := by decide +kernel
theorem dL_law_261 : decode cL_law 261 = .ok (.iaload, 1) := by decide +kernel
theorem dL_law_262 : decode cL_law 262 = .ok (.aload_n 0, 1) := by decide +kernel
theorem dL_law_263 : decode cL_law 263 = .ok (.iload 4, 2) := by decide +kernel
theorem dL_law_265 : decode cL_law 265 = .ok (.iconst 2, 1) := by decide +kernel
theorem dL_law_266 : decode cL_law 266 = .ok (.iadd, 1) := by decide +kernel
theorem dL_law_267 : decode cL_law 267 = .ok (.iaload, 1) := by decide +kernel
theorem dL_law_268 : decode cL_law 268 = .ok (.invokevirtual 58, 3) := by decide +kernel
theorem dL_law_271 : decode cL_law 271 = .ok (.if_icmp .eq 269, 3) := by decide +kernel
theorem dL_law_274 : decode cL_law 274 = .ok (.iconst 0, 1) := by decide +kernel
theorem dL_law_275 : decode cL_law 275 = .ok (.ireturn, 1) := by decide +kernel
theorem dL_law_276 : decode cL_law 276 = .ok (.aload_n 1, 1) := by decide +kernel
theorem dL_law_277 : decode cL_law 277 = .ok (.aload_n 0, 1) := by decide +kernel
theorem dL_law_278 : decode cL_law 278 = .ok (.iload 4, 2) := by decide +kernel
theorem dL_law_280 : decode cL_law 280 = .ok (.iconst 1, 1) := by decide +kernel
theorem dL_law_281 : decode cL_law 281 = .ok (.iadd, 1) := by decide +kernel
theorem dL_law_282 : decode cL_law 282 = .ok (.iaload, 1) := by decide +kernel
theorem dL_law_283 : decode cL_law 283 = .ok (.aload_n 0, 1) := by decide +kernel
theorem dL_law_284 : decode cL_law 284 = .ok (.iload 4, 2) := by decide +kernel
theorem dL_law_286 : decode cL_law 286 = .ok (.iconst 2, 1) := by decide +kernel
theorem dL_law_287 : decode cL_law 287 = .ok (.iadd, 1) := by decide +kernel
theorem dL_law_288 : decode cL_law 288 = .ok (.iaload, 1) := by decide +kernel
theorem dL_law_289 : decode cL_law 289 = .ok (.ifCond .eq 7, 3) := by decide +kernel
theorem dL_law_292 : decode cL_law 292 = .ok (.iconst 1, 1) := by decide +kernel
theorem dL_law_293 : decode cL_law 293 = .ok (.goto 4, 3) := by decide +kernel
theorem dL_law_296 : decode cL_law 296 = .ok (.iconst 0, 1) := by decide +kernel
theorem dL_law_297 : decode cL_law 297 = .ok (.aload_n 3, 1) := by decide +kernel
theorem dL_law_298 : decode cL_law 298 = .ok (.invokestatic 59, 3) := by decide +kernel
theorem dL_law_301 : decode cL_law 301 = .ok (.istore 5, 2) := by decide +kernel
theorem dL_law_303 : decode cL_law 303 = .ok (.aload_n 2, 1) := by decide +kernel
theorem dL_law_304 : decode cL_law 304 = .ok (.aload_n 0, 1) := by decide +kernel
theorem dL_law_305 : decode cL_law 305 = .ok (.iload 4, 2) := by decide +kernel
theorem dL_law_307 : decode cL_law 307 = .ok (.iconst 1, 1) := by decide +kernel
theorem dL_law_308 : decode cL_law 308 = .ok (.iadd, 1) := by decide +kernel
theorem dL_law_309 : decode cL_law 309 = .ok (.iaload, 1) := by decide +kernel
theorem dL_law_310 : decode cL_law 310 = .ok (.aload_n 0, 1) := by decide +kernel
theorem dL_law_311 : decode cL_law 311 = .ok (.iload 4, 2) := by decide +kernel
theorem dL_law_313 : decode cL_law 313 = .ok (.iconst 2, 1) := by decide +kernel
theorem dL_law_314 : decode cL_law 314 = .ok (.iadd, 1) := by decide +kernel
theorem dL_law_315 : decode cL_law 315 = .ok (.iaload, 1) := by decide +kernel
theorem dL_law_316 : decode cL_law 316 = .ok (.ifCond .eq 7, 3) := by decide +kernel
theorem dL_law_319 : decode cL_law 319 = .ok (.iconst 1, 1) := by decide +kernel
theorem dL_law_320 : decode cL_law 320 = .ok (.goto 4, 3) := by decide +kernel
theorem dL_law_323 : decode cL_law 323 = .ok (.iconst 0, 1) := by decide +kernel
theorem dL_law_324 : decode cL_law 324 = .ok (.invokevirtual 62, 3) := by decide +kernel
theorem dL_law_327 : decode cL_law 327 = .ok (.istore 6, 2) := by decide +kernel
theorem dL_law_329 : decode cL_law 329 = .ok (.aload_n 2, 1) := by decide +kernel
theorem dL_law_330 : decode cL_law 330 = .ok (.invokevirtual 46, 3) := by decide +kernel
theorem dL_law_333 : decode cL_law 333 = .ok (.iload 5, 2) := by decide +kernel
theorem dL_law_335 : decode cL_law 335 = .ok (.if_icmp .eq 5, 3) := by decide +kernel
theorem dL_law_338 : decode cL_law 338 = .ok (.iconst 0, 1) := by decide +kernel
theorem dL_law_339 : decode cL_law 339 = .ok (.ireturn, 1) := by decide +kernel
theorem dL_law_340 : decode cL_law 340 = .ok (.iload 5, 2) := by decide +kernel
theorem dL_law_342 : decode cL_law 342 = .ok (.ifCond .ne 15, 3) := by decide +kernel
theorem dL_law_345 : decode cL_law 345 = .ok (.aload_n 3, 1) := by decide +kernel
theorem dL_law_346 : decode cL_law 346 = .ok (.iconst 0, 1) := by decide +kernel
theorem dL_law_347 : decode cL_law 347 = .ok (.laload, 1) := by decide +kernel
theorem dL_law_348 : decode cL_law 348 = .ok (.iload 6, 2) := by decide +kernel
theorem dL_law_350 : decode cL_law 350 = .ok (.i2l, 1) := by decide +kernel
theorem dL_law_351 : decode cL_law 351 = .ok (.lcmp, 1) := by decide +kernel
theorem dL_law_352 : decode cL_law 352 = .ok (.ifCond .eq 5, 3) := by decide +kernel
theorem dL_law_355 : decode cL_law 355 = .ok (.iconst 0, 1) := by decide +kernel
theorem dL_law_356 : decode cL_law 356 = .ok (.ireturn, 1) := by decide +kernel
theorem dL_law_357 : decode cL_law 357 = .ok (.goto 183, 3) := by decide +kernel
theorem dL_law_360 : decode cL_law 360 = .ok (.aload_n 1, 1) := by decide +kernel
theorem dL_law_361 : decode cL_law 361 = .ok (.aload_n 0, 1) := by decide +kernel
theorem dL_law_362 : decode cL_law 362 = .ok (.iload 4, 2) := by decide +kernel
theorem dL_law_364 : decode cL_law 364 = .ok (.iconst 1, 1) := by decide +kernel
theorem dL_law_365 : decode cL_law 365 = .ok (.iadd, 1) := by decide +kernel
theorem dL_law_366 : decode cL_law 366 = .ok (.iaload, 1) := by decide +kernel
theorem dL_law_367 : decode cL_law 367 = .ok (.aload_n 0, 1) := by decide +kernel
theorem dL_law_368 : decode cL_law 368 = .ok (.iload 4, 2) := by decide +kernel
theorem dL_law_370 : decode cL_law 370 = .ok (.iconst 2, 1) := by decide +kernel
theorem dL_law_371 : decode cL_law 371 = .ok (.iadd, 1) := by decide +kernel
theorem dL_law_372 : decode cL_law 372 = .ok (.iaload, 1) := by decide +kernel
theorem dL_law_373 : decode cL_law 373 = .ok (.invokevirtual 63, 3) := by decide +kernel
theorem dL_law_376 : decode cL_law 376 = .ok (.aload_n 2, 1) := by decide +kernel
theorem dL_law_377 : decode cL_law 377 = .ok (.aload_n 0, 1) := by decide +kernel
theorem dL_law_378 : decode cL_law 378 = .ok (.iload 4, 2) := by decide +kernel
theorem dL_law_380 : decode cL_law 380 = .ok (.iconst 1, 1) := by decide +kernel
theorem dL_law_381 : decode cL_law 381 = .ok (.iadd, 1) := by decide +kernel
theorem dL_law_382 : decode cL_law 382 = .ok (.iaload, 1) := by decide +kernel
theorem dL_law_383 : decode cL_law 383 = .ok (.aload_n 0, 1) := by decide +kernel
theorem dL_law_384 : decode cL_law 384 = .ok (.iload 4, 2) := by decide +kernel
theorem dL_law_386 : decode cL_law 386 = .ok (.iconst 2, 1) := by decide +kernel
theorem dL_law_387 : decode cL_law 387 = .ok (.iadd, 1) := by decide +kernel
theorem dL_law_388 : decode cL_law 388 = .ok (.iaload, 1) := by decide +kernel
theorem dL_law_389 : decode cL_law 389 = .ok (.invokevirtual 67, 3) := by decide +kernel
theorem dL_law_392 : decode cL_law 392 = .ok (.if_icmp .eq 148, 3) := by decide +kernel
theorem dL_law_395 : decode cL_law 395 = .ok (.iconst 0, 1) := by decide +kernel
theorem dL_law_396 : decode cL_law 396 = .ok (.ireturn, 1) := by decide +kernel
theorem dL_law_397 : decode cL_law 397 = .ok (.aload_n 1, 1) := by decide +kernel
theorem dL_law_398 : decode cL_law 398 = .ok (.aload_n 0, 1) := by decide +kernel
theorem dL_law_399 : decode cL_law 399 = .ok (.iload 4, 2) := by decide +kernel
theorem dL_law_401 : decode cL_law 401 = .ok (.iconst 1, 1) := by decide +kernel
theorem dL_law_402 : decode cL_law 402 = .ok (.iadd, 1) := by decide +kernel
theorem dL_law_403 : decode cL_law 403 = .ok (.iaload, 1) := by decide +kernel
theorem dL_law_404 : decode cL_law 404 = .ok (.aload_n 3, 1) := by decide +kernel
theorem dL_law_405 : decode cL_law 405 = .ok (.invokestatic 68, 3) := by decide +kernel
theorem dL_law_408 : decode cL_law 408 = .ok (.istore 5, 2) := by decide +kernel
theorem dL_law_410 : decode cL_law 410 = .ok (.aload_n 2, 1) := by decide +kernel
theorem dL_law_411 : decode cL_law 411 = .ok (.aload_n 0, 1) := by decide +kernel
theorem dL_law_412 : decode cL_law 412 = .ok (.iload 4, 2) := by decide +kernel
theorem dL_law_414 : decode cL_law 414 = .ok (.iconst 1, 1) := by decide +kernel
theorem dL_law_415 : decode cL_law 415 = .ok (.iadd, 1) := by decide +kernel
theorem dL_law_416 : decode cL_law 416 = .ok (.iaload, 1) := by decide +kernel
theorem dL_law_417 : decode cL_law 417 = .ok (.invokevirtual 70, 3) := by decide +kernel
theorem dL_law_420 : decode cL_law 420 = .ok (.istore 6, 2) := by decide +kernel
theorem dL_law_422 : decode cL_law 422 = .ok (.aload_n 2, 1) := by decide +kernel
theorem dL_law_423 : decode cL_law 423 = .ok (.invokevirtual 46, 3) := by decide +kernel
theorem dL_law_426 : decode cL_law 426 = .ok (.iload 5, 2) := by decide +kernel
theorem dL_law_428 : decode cL_law 428 = .ok (.if_icmp .eq 5, 3) := by decide +kernel
theorem dL_law_431 : decode cL_law 431 = .ok (.iconst 0, 1) := by decide +kernel
theorem dL_law_432 : decode cL_law 432 = .ok (.ireturn, 1) := by decide +kernel
theorem dL_law_433 : decode cL_law 433 = .ok (.iload 5, 2) := by decide +kernel
theorem dL_law_435 : decode cL_law 435 = .ok (.ifCond .ne 15, 3) := by decide +kernel
theorem dL_law_438 : decode cL_law 438 = .ok (.aload_n 3, 1) := by decide +kernel
theorem dL_law_439 : decode cL_law 439 = .ok (.iconst 0, 1) := by decide +kernel
theorem dL_law_440 : decode cL_law 440 = .ok (.laload, 1) := by decide +kernel
theorem dL_law_441 : decode cL_law 441 = .ok (.iload 6, 2) := by decide +kernel
theorem dL_law_443 : decode cL_law 443 = .ok (.i2l, 1) := by decide +kernel
theorem dL_law_444 : decode cL_law 444 = .ok (.lcmp, 1) := by decide +kernel
theorem dL_law_445 : decode cL_law 445 = .ok (.ifCond .eq 5, 3) := by decide +kernel
theorem dL_law_448 : decode cL_law 448 = .ok (.iconst 0, 1) := by decide +kernel
theorem dL_law_449 : decode cL_law 449 = .ok (.ireturn, 1) := by decide +kernel
theorem dL_law_450 : decode cL_law 450 = .ok (.goto 90, 3) := by decide +kernel
theorem dL_law_453 : decode cL_law 453 = .ok (.aload_n 1, 1) := by decide +kernel
theorem dL_law_454 : decode cL_law 454 = .ok (.aload_n 0, 1) := by decide +kernel
theorem dL_law_455 : decode cL_law 455 = .ok (.iload 4, 2) := by decide +kernel
theorem dL_law_457 : decode cL_law 457 = .ok (.iconst 1, 1) := by decide +kernel
theorem dL_law_458 : decode cL_law 458 = .ok (.iadd, 1) := by decide +kernel
theorem dL_law_459 : decode cL_law 459 = .ok (.iaload, 1) := by decide +kernel
theorem dL_law_460 : decode cL_law 460 = .ok (.invokevirtual 71, 3) := by decide +kernel
theorem dL_law_463 : decode cL_law 463 = .ok (.aload_n 2, 1) := by decide +kernel
theorem dL_law_464 : decode cL_law 464 = .ok (.aload_n 0, 1) := by decide +kernel
theorem dL_law_465 : decode cL_law 465 = .ok (.iload 4, 2) := by decide +kernel
theorem dL_law_467 : decode cL_law 467 = .ok (.iconst 1, 1) := by decide +kernel
theorem dL_law_468 : decode cL_law 468 = .ok (.iadd, 1) := by decide +kernel
theorem dL_law_469 : decode cL_law 469 = .ok (.iaload, 1) := by decide +kernel
theorem dL_law_470 : decode cL_law 470 = .ok (.invokevirtual 74, 3) := by decide +kernel
theorem dL_law_473 : decode cL_law 473 = .ok (.if_icmp .eq 67, 3) := by decide +kernel
theorem dL_law_476 : decode cL_law 476 = .ok (.iconst 0, 1) := by decide +kernel
theorem dL_law_477 : decode cL_law 477 = .ok (.ireturn, 1) := by decide +kernel
theorem dL_law_478 : decode cL_law 478 = .ok (.aload_n 1, 1) := by decide +kernel
theorem dL_law_479 : decode cL_law 479 = .ok (.aload_n 0, 1) := by decide +kernel
theorem dL_law_480 : decode cL_law 480 = .ok (.iload 4, 2) := by decide +kernel
theorem dL_law_482 : decode cL_law 482 = .ok (.iconst 1, 1) := by decide +kernel
theorem dL_law_483 : decode cL_law 483 = .ok (.iadd, 1) := by decide +kernel
theorem dL_law_484 : decode cL_law 484 = .ok (.iaload, 1) := by decide +kernel
theorem dL_law_485 : decode cL_law 485 = .ok (.aload_n 0, 1) := by decide +kernel
theorem dL_law_486 : decode cL_law 486 = .ok (.iload 4, 2) := by decide +kernel
theorem dL_law_488 : decode cL_law 488 = .ok (.iconst 2, 1) := by decide +kernel
theorem dL_law_489 : decode cL_law 489 = .ok (.iadd, 1) := by decide +kernel
theorem dL_law_490 : decode cL_law 490 = .ok (.iaload, 1) := by decide +kernel
theorem dL_law_491 : decode cL_law 491 = .ok (.invokevirtual 75, 3) := by decide +kernel
theorem dL_law_494 : decode cL_law 494 = .ok (.aload_n 2, 1) := by decide +kernel
theorem dL_law_495 : decode cL_law 495 = .ok (.aload_n 0, 1) := by decide +kernel
theorem dL_law_496 : decode cL_law 496 = .ok (.iload 4, 2) := by decide +kernel
theorem dL_law_498 : decode cL_law 498 = .ok (.iconst 1, 1) := by decide +kernel
theorem dL_law_499 : decode cL_law 499 = .ok (.iadd, 1) := by decide +kernel
theorem dL_law_500 : decode cL_law 500 = .ok (.iaload, 1) := by decide +kernel
theorem dL_law_501 : decode cL_law 501 = .ok (.aload_n 0, 1) := by decide +kernel
theorem dL_law_502 : decode cL_law 502 = .ok (.iload 4, 2) := by decide +kernel
theorem dL_law_504 : decode cL_law 504 = .ok (.iconst 2, 1) := by decide +kernel
theorem dL_law_505 : decode cL_law 505 = .ok (.iadd, 1) := by decide +kernel
theorem dL_law_506 : decode cL_law 506 = .ok (.iaload, 1) := by decide +kernel
theorem dL_law_507 : decode cL_law 507 = .ok (.invokevirtual 78, 3) := by decide +kernel
theorem dL_law_510 : decode cL_law 510 = .ok (.if_icmp .eq 30, 3) := by decide +kernel
theorem dL_law_513 : decode cL_law 513 = .ok (.iconst 0, 1) := by decide +kernel
theorem dL_law_514 : decode cL_law 514 = .ok (.ireturn, 1) := by decide +kernel
theorem dL_law_515 : decode cL_law 515 = .ok (.aload_n 1, 1) := by decide +kernel
theorem dL_law_516 : decode cL_law 516 = .ok (.aload_n 0, 1) := by decide +kernel
theorem dL_law_517 : decode cL_law 517 = .ok (.iload 4, 2) := by decide +kernel
theorem dL_law_519 : decode cL_law 519 = .ok (.iconst 1, 1) := by decide +kernel
theorem dL_law_520 : decode cL_law 520 = .ok (.iadd, 1) := by decide +kernel
theorem dL_law_521 : decode cL_law 521 = .ok (.iaload, 1) := by decide +kernel
theorem dL_law_522 : decode cL_law 522 = .ok (.invokevirtual 79, 3) := by decide +kernel
theorem dL_law_525 : decode cL_law 525 = .ok (.aload_n 2, 1) := by decide +kernel
theorem dL_law_526 : decode cL_law 526 = .ok (.aload_n 0, 1) := by decide +kernel
theorem dL_law_527 : decode cL_law 527 = .ok (.iload 4, 2) := by decide +kernel
theorem dL_law_529 : decode cL_law 529 = .ok (.iconst 1, 1) := by decide +kernel
theorem dL_law_530 : decode cL_law 530 = .ok (.iadd, 1) := by decide +kernel
theorem dL_law_531 : decode cL_law 531 = .ok (.iaload, 1) := by decide +kernel
theorem dL_law_532 : decode cL_law 532 = .ok (.invokevirtual 82, 3) := by decide +kernel
theorem dL_law_535 : decode cL_law 535 = .ok (.if_icmp .eq 5, 3) := by decide +kernel
theorem dL_law_538 : decode cL_law 538 = .ok (.iconst 0, 1) := by decide +kernel
theorem dL_law_539 : decode cL_law 539 = .ok (.ireturn, 1) := by decide +kernel
theorem dL_law_540 : decode cL_law 540 = .ok (.iinc 4 4, 3) := by decide +kernel
theorem dL_law_543 : decode cL_law 543 = .ok (.goto (-520), 3) := by decide +kernel
theorem dL_law_546 : decode cL_law 546 = .ok (.iconst 1, 1) := by decide +kernel
theorem dL_law_547 : decode cL_law 547 = .ok (.ireturn, 1) := by decide +kernel
