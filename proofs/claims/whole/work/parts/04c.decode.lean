theorem dX6_init_0 : decode cX6_init 0 = .ok (.aload_n 0, 1) := by decide +kernel
theorem dX6_init_1 : decode cX6_init 1 = .ok (.invokespecial 1, 3) := by decide +kernel
theorem dX6_init_4 : decode cX6_init 4 = .ok (.aload_n 0, 1) := by decide +kernel
theorem dX6_init_5 : decode cX6_init 5 = .ok (.sipush 512, 3) := by decide +kernel
theorem dX6_init_8 : decode cX6_init 8 = .ok (.newarray .int, 2) := by decide +kernel
theorem dX6_init_10 : decode cX6_init 10 = .ok (.putfield 7, 3) := by decide +kernel
theorem dX6_init_13 : decode cX6_init 13 = .ok (.aload_n 0, 1) := by decide +kernel
theorem dX6_init_14 : decode cX6_init 14 = .ok (.bipush 16, 2) := by decide +kernel
theorem dX6_init_16 : decode cX6_init 16 = .ok (.newarray .int, 2) := by decide +kernel
theorem dX6_init_18 : decode cX6_init 18 = .ok (.putfield 13, 3) := by decide +kernel
theorem dX6_init_21 : decode cX6_init 21 = .ok (.aload_n 0, 1) := by decide +kernel
theorem dX6_init_22 : decode cX6_init 22 = .ok (.sipush 164, 3) := by decide +kernel
theorem dX6_init_25 : decode cX6_init 25 = .ok (.newarray .int, 2) := by decide +kernel
theorem dX6_init_27 : decode cX6_init 27 = .ok (.putfield 16, 3) := by decide +kernel
theorem dX6_init_30 : decode cX6_init 30 = .ok (.aload_n 0, 1) := by decide +kernel
theorem dX6_init_31 : decode cX6_init 31 = .ok (.sipush 164, 3) := by decide +kernel
theorem dX6_init_34 : decode cX6_init 34 = .ok (.newarray .int, 2) := by decide +kernel
theorem dX6_init_36 : decode cX6_init 36 = .ok (.putfield 19, 3) := by decide +kernel
theorem dX6_init_39 : decode cX6_init 39 = .ok (.aload_n 0, 1) := by decide +kernel
theorem dX6_init_40 : decode cX6_init 40 = .ok (.iconst 4, 1) := by decide +kernel
theorem dX6_init_41 : decode cX6_init 41 = .ok (.newarray .int, 2) := by decide +kernel
theorem dX6_init_43 : decode cX6_init 43 = .ok (.putfield 22, 3) := by decide +kernel
theorem dX6_init_46 : decode cX6_init 46 = .ok (.aload_n 0, 1) := by decide +kernel
theorem dX6_init_47 : decode cX6_init 47 = .ok (.bipush 16, 2) := by decide +kernel
theorem dX6_init_49 : decode cX6_init 49 = .ok (.newarray .int, 2) := by decide +kernel
theorem dX6_init_51 : decode cX6_init 51 = .ok (.putfield 25, 3) := by decide +kernel
theorem dX6_init_54 : decode cX6_init 54 = .ok (.aload_n 0, 1) := by decide +kernel
theorem dX6_init_55 : decode cX6_init 55 = .ok (.bipush 16, 2) := by decide +kernel
theorem dX6_init_57 : decode cX6_init 57 = .ok (.newarray .int, 2) := by decide +kernel
theorem dX6_init_59 : decode cX6_init 59 = .ok (.putfield 28, 3) := by decide +kernel
theorem dX6_init_62 : decode cX6_init 62 = .ok (.aload_n 0, 1) := by decide +kernel
theorem dX6_init_63 : decode cX6_init 63 = .ok (.iconst (-1), 1) := by decide +kernel
theorem dX6_init_64 : decode cX6_init 64 = .ok (.putfield 31, 3) := by decide +kernel
theorem dX6_init_67 : decode cX6_init 67 = .ok (.aload_n 0, 1) := by decide +kernel
theorem dX6_init_68 : decode cX6_init 68 = .ok (.bipush 8, 2) := by decide +kernel
theorem dX6_init_70 : decode cX6_init 70 = .ok (.newarray .int, 2) := by decide +kernel
theorem dX6_init_72 : decode cX6_init 72 = .ok (.putfield 35, 3) := by decide +kernel
theorem dX6_init_75 : decode cX6_init 75 = .ok (.aload_n 0, 1) := by decide +kernel
theorem dX6_init_76 : decode cX6_init 76 = .ok (.bipush 40, 2) := by decide +kernel
theorem dX6_init_78 : decode cX6_init 78 = .ok (.newarray .int, 2) := by decide +kernel
theorem dX6_init_80 : decode cX6_init 80 = .ok (.putfield 38, 3) := by decide +kernel
theorem dX6_init_83 : decode cX6_init 83 = .ok (.aload_n 0, 1) := by decide +kernel
theorem dX6_init_84 : decode cX6_init 84 = .ok (.bipush 40, 2) := by decide +kernel
theorem dX6_init_86 : decode cX6_init 86 = .ok (.newarray .int, 2) := by decide +kernel
theorem dX6_init_88 : decode cX6_init 88 = .ok (.putfield 41, 3) := by decide +kernel
theorem dX6_init_91 : decode cX6_init 91 = .ok (.aload_n 0, 1) := by decide +kernel
theorem dX6_init_92 : decode cX6_init 92 = .ok (.bipush 64, 2) := by decide +kernel
theorem dX6_init_94 : decode cX6_init 94 = .ok (.newarray .int, 2) := by decide +kernel
theorem dX6_init_96 : decode cX6_init 96 = .ok (.putfield 44, 3) := by decide +kernel
theorem dX6_init_99 : decode cX6_init 99 = .ok (.aload_n 0, 1) := by decide +kernel
theorem dX6_init_100 : decode cX6_init 100 = .ok (.bipush 64, 2) := by decide +kernel
theorem dX6_init_102 : decode cX6_init 102 = .ok (.newarray .int, 2) := by decide +kernel
theorem dX6_init_104 : decode cX6_init 104 = .ok (.putfield 47, 3) := by decide +kernel
theorem dX6_init_107 : decode cX6_init 107 = .ok (.aload_n 0, 1) := by decide +kernel
theorem dX6_init_108 : decode cX6_init 108 = .ok (.bipush 64, 2) := by decide +kernel
theorem dX6_init_110 : decode cX6_init 110 = .ok (.newarray .int, 2) := by decide +kernel
theorem dX6_init_112 : decode cX6_init 112 = .ok (.putfield 50, 3) := by decide +kernel
theorem dX6_init_115 : decode cX6_init 115 = .ok (.aload_n 0, 1) := by decide +kernel
theorem dX6_init_116 : decode cX6_init 116 = .ok (.bipush 64, 2) := by decide +kernel
theorem dX6_init_118 : decode cX6_init 118 = .ok (.newarray .int, 2) := by decide +kernel
theorem dX6_init_120 : decode cX6_init 120 = .ok (.putfield 53, 3) := by decide +kernel
theorem dX6_init_123 : decode cX6_init 123 = .ok (.iconst 0, 1) := by decide +kernel
theorem dX6_init_124 : decode cX6_init 124 = .ok (.istore_n 1, 1) := by decide +kernel
theorem dX6_init_125 : decode cX6_init 125 = .ok (.iload_n 1, 1) := by decide +kernel
theorem dX6_init_126 : decode cX6_init 126 = .ok (.bipush 64, 2) := by decide +kernel
theorem dX6_init_128 : decode cX6_init 128 = .ok (.if_icmp .ge 16, 3) := by decide +kernel
theorem dX6_init_131 : decode cX6_init 131 = .ok (.aload_n 0, 1) := by decide +kernel
theorem dX6_init_132 : decode cX6_init 132 = .ok (.getfield 50, 3) := by decide +kernel
theorem dX6_init_135 : decode cX6_init 135 = .ok (.iload_n 1, 1) := by decide +kernel
theorem dX6_init_136 : decode cX6_init 136 = .ok (.iconst (-1), 1) := by decide +kernel
theorem dX6_init_137 : decode cX6_init 137 = .ok (.iastore, 1) := by decide +kernel
theorem dX6_init_138 : decode cX6_init 138 = .ok (.iinc 1 1, 3) := by decide +kernel
theorem dX6_init_141 : decode cX6_init 141 = .ok (.goto (-16), 3) := by decide +kernel
theorem dX6_init_144 : decode cX6_init 144 = .ok (.return_, 1) := by decide +kernel
theorem dX6_thrown_0 : decode cX6_thrown 0 = .ok (.aload_n 0, 1) := by decide +kernel
theorem dX6_thrown_1 : decode cX6_thrown 1 = .ok (.getfield 56, 3) := by decide +kernel
theorem dX6_thrown_4 : decode cX6_thrown 4 = .ok (.ireturn, 1) := by decide +kernel
theorem dX6_raise_0 : decode cX6_raise 0 = .ok (.aload_n 0, 1) := by decide +kernel
theorem dX6_raise_1 : decode cX6_raise 1 = .ok (.iload_n 1, 1) := by decide +kernel
theorem dX6_raise_2 : decode cX6_raise 2 = .ok (.putfield 56, 3) := by decide +kernel
theorem dX6_raise_5 : decode cX6_raise 5 = .ok (.iconst 0, 1) := by decide +kernel
theorem dX6_raise_6 : decode cX6_raise 6 = .ok (.ireturn, 1) := by decide +kernel
theorem dX6_isTask_0 : decode cX6_isTask 0 = .ok (.iload_n 0, 1) := by decide +kernel
theorem dX6_isTask_1 : decode cX6_isTask 1 = .ok (.ifCond .lt 13, 3) := by decide +kernel
theorem dX6_isTask_4 : decode cX6_isTask 4 = .ok (.iload_n 0, 1) := by decide +kernel
theorem dX6_isTask_5 : decode cX6_isTask 5 = .ok (.bipush 16, 2) := by decide +kernel
theorem dX6_isTask_7 : decode cX6_isTask 7 = .ok (.if_icmp .ge 7, 3) := by decide +kernel
theorem dX6_isTask_10 : decode cX6_isTask 10 = .ok (.iconst 1, 1) := by decide +kernel
theorem dX6_isTask_11 : decode cX6_isTask 11 = .ok (.goto 4, 3) := by decide +kernel
theorem dX6_isTask_14 : decode cX6_isTask 14 = .ok (.iconst 0, 1) := by decide +kernel
theorem dX6_isTask_15 : decode cX6_isTask 15 = .ok (.ireturn, 1) := by decide +kernel
theorem dX6_program_0 : decode cX6_program 0 = .ok (.aload_n 0, 1) := by decide +kernel
theorem dX6_program_1 : decode cX6_program 1 = .ok (.iconst 0, 1) := by decide +kernel
theorem dX6_program_2 : decode cX6_program 2 = .ok (.putfield 56, 3) := by decide +kernel
theorem dX6_program_5 : decode cX6_program 5 = .ok (.aload_n 0, 1) := by decide +kernel
theorem dX6_program_6 : decode cX6_program 6 = .ok (.getfield 59, 3) := by decide +kernel
theorem dX6_program_9 : decode cX6_program 9 = .ok (.ifCond .ne 30, 3) := by decide +kernel
theorem dX6_program_12 : decode cX6_program 12 = .ok (.iload_n 1, 1) := by decide +kernel
theorem dX6_program_13 : decode cX6_program 13 = .ok (.invokestatic 63, 3) := by decide +kernel
theorem dX6_program_16 : decode cX6_program 16 = .ok (.ifCond .eq 23, 3) := by decide +kernel
theorem dX6_program_19 : decode cX6_program 19 = .ok (.iload_n 2, 1) := by decide +kernel
theorem dX6_program_20 : decode cX6_program 20 = .ok (.ifCond .lt 19, 3) := by decide +kernel
theorem dX6_program_23 : decode cX6_program 23 = .ok (.iload_n 2, 1) := by decide +kernel
theorem dX6_program_24 : decode cX6_program 24 = .ok (.aload_n 0, 1) := by decide +kernel
theorem dX6_program_25 : decode cX6_program 25 = .ok (.getfield 13, 3) := by decide +kernel
theorem dX6_program_28 : decode cX6_program 28 = .ok (.iload_n 1, 1) := by decide +kernel
theorem dX6_program_29 : decode cX6_program 29 = .ok (.iaload, 1) := by decide +kernel
theorem dX6_program_30 : decode cX6_program 30 = .ok (.if_icmp .gt 9, 3) := by decide +kernel
theorem dX6_program_33 : decode cX6_program 33 = .ok (.iload_n 2, 1) := by decide +kernel
theorem dX6_program_34 : decode cX6_program 34 = .ok (.bipush 32, 2) := by decide +kernel
theorem dX6_program_36 : decode cX6_program 36 = .ok (.if_icmp .lt 5, 3) := by decide +kernel
theorem dX6_program_39 : decode cX6_program 39 = .ok (.iconst 0, 1) := by decide +kernel
theorem dX6_program_40 : decode cX6_program 40 = .ok (.ireturn, 1) := by decide +kernel
theorem dX6_program_41 : decode cX6_program 41 = .ok (.aload_n 0, 1) := by decide +kernel
theorem dX6_program_42 : decode cX6_program 42 = .ok (.getfield 7, 3) := by decide +kernel
theorem dX6_program_45 : decode cX6_program 45 = .ok (.bipush 32, 2) := by decide +kernel
theorem dX6_program_47 : decode cX6_program 47 = .ok (.iload_n 1, 1) := by decide +kernel
theorem dX6_program_48 : decode cX6_program 48 = .ok (.imul, 1) := by decide +kernel
theorem dX6_program_49 : decode cX6_program 49 = .ok (.iload_n 2, 1) := by decide +kernel
theorem dX6_program_50 : decode cX6_program 50 = .ok (.iadd, 1) := by decide +kernel
theorem dX6_program_51 : decode cX6_program 51 = .ok (.iload_n 3, 1) := by decide +kernel
theorem dX6_program_52 : decode cX6_program 52 = .ok (.iastore, 1) := by decide +kernel
theorem dX6_program_53 : decode cX6_program 53 = .ok (.iload_n 2, 1) := by decide +kernel
theorem dX6_program_54 : decode cX6_program 54 = .ok (.aload_n 0, 1) := by decide +kernel
theorem dX6_program_55 : decode cX6_program 55 = .ok (.getfield 13, 3) := by decide +kernel
theorem dX6_program_58 : decode cX6_program 58 = .ok (.iload_n 1, 1) := by decide +kernel
theorem dX6_program_59 : decode cX6_program 59 = .ok (.iaload, 1) := by decide +kernel
theorem dX6_program_60 : decode cX6_program 60 = .ok (.if_icmp .ne 13, 3) := by decide +kernel
theorem dX6_program_63 : decode cX6_program 63 = .ok (.aload_n 0, 1) := by decide +kernel
theorem dX6_program_64 : decode cX6_program 64 = .ok (.getfield 13, 3) := by decide +kernel
theorem dX6_program_67 : decode cX6_program 67 = .ok (.iload_n 1, 1) := by decide +kernel
theorem dX6_program_68 : decode cX6_program 68 = .ok (.dup2, 1) := by decide +kernel
theorem dX6_program_69 : decode cX6_program 69 = .ok (.iaload, 1) := by decide +kernel
theorem dX6_program_70 : decode cX6_program 70 = .ok (.iconst 1, 1) := by decide +kernel
theorem dX6_program_71 : decode cX6_program 71 = .ok (.iadd, 1) := by decide +kernel
theorem dX6_program_72 : decode cX6_program 72 = .ok (.iastore, 1) := by decide +kernel
theorem dX6_program_73 : decode cX6_program 73 = .ok (.iconst 1, 1) := by decide +kernel
theorem dX6_program_74 : decode cX6_program 74 = .ok (.ireturn, 1) := by decide +kernel
theorem dX6_op_0 : decode cX6_op 0 = .ok (.iload_n 0, 1) := by decide +kernel
theorem dX6_op_1 : decode cX6_op 1 = .ok (.bipush 24, 2) := by decide +kernel
theorem dX6_op_3 : decode cX6_op 3 = .ok (.iushr, 1) := by decide +kernel
theorem dX6_op_4 : decode cX6_op 4 = .ok (.ireturn, 1) := by decide +kernel
theorem dX6_a_0 : decode cX6_a 0 = .ok (.iload_n 0, 1) := by decide +kernel
theorem dX6_a_1 : decode cX6_a 1 = .ok (.bipush 16, 2) := by decide +kernel
theorem dX6_a_3 : decode cX6_a 3 = .ok (.iushr, 1) := by decide +kernel
theorem dX6_a_4 : decode cX6_a 4 = .ok (.sipush 255, 3) := by decide +kernel
theorem dX6_a_7 : decode cX6_a 7 = .ok (.iand, 1) := by decide +kernel
theorem dX6_a_8 : decode cX6_a 8 = .ok (.ireturn, 1) := by decide +kernel
theorem dX6_b_0 : decode cX6_b 0 = .ok (.iload_n 0, 1) := by decide +kernel
theorem dX6_b_1 : decode cX6_b 1 = .ok (.bipush 8, 2) := by decide +kernel
theorem dX6_b_3 : decode cX6_b 3 = .ok (.iushr, 1) := by decide +kernel
theorem dX6_b_4 : decode cX6_b 4 = .ok (.sipush 255, 3) := by decide +kernel
theorem dX6_b_7 : decode cX6_b 7 = .ok (.iand, 1) := by decide +kernel
theorem dX6_b_8 : decode cX6_b 8 = .ok (.ireturn, 1) := by decide +kernel
theorem dX6_c_0 : decode cX6_c 0 = .ok (.iload_n 0, 1) := by decide +kernel
theorem dX6_c_1 : decode cX6_c 1 = .ok (.sipush 255, 3) := by decide +kernel
theorem dX6_c_4 : decode cX6_c 4 = .ok (.iand, 1) := by decide +kernel
theorem dX6_c_5 : decode cX6_c 5 = .ok (.ireturn, 1) := by decide +kernel
theorem dX6_isRight_0 : decode cX6_isRight 0 = .ok (.aload_n 0, 1) := by decide +kernel
theorem dX6_isRight_1 : decode cX6_isRight 1 = .ok (.getfield 7, 3) := by decide +kernel
theorem dX6_isRight_4 : decode cX6_isRight 4 = .ok (.bipush 32, 2) := by decide +kernel
theorem dX6_isRight_6 : decode cX6_isRight 6 = .ok (.iload_n 1, 1) := by decide +kernel
theorem dX6_isRight_7 : decode cX6_isRight 7 = .ok (.imul, 1) := by decide +kernel
theorem dX6_isRight_8 : decode cX6_isRight 8 = .ok (.iload_n 2, 1) := by decide +kernel
theorem dX6_isRight_9 : decode cX6_isRight 9 = .ok (.iadd, 1) := by decide +kernel
theorem dX6_isRight_10 : decode cX6_isRight 10 = .ok (.iaload, 1) := by decide +kernel
theorem dX6_isRight_11 : decode cX6_isRight 11 = .ok (.istore_n 3, 1) := by decide +kernel
theorem dX6_isRight_12 : decode cX6_isRight 12 = .ok (.iload_n 3, 1) := by decide +kernel
theorem dX6_isRight_13 : decode cX6_isRight 13 = .ok (.invokestatic 67, 3) := by decide +kernel
theorem dX6_isRight_16 : decode cX6_isRight 16 = .ok (.istore 4, 2) := by decide +kernel
theorem dX6_isRight_18 : decode cX6_isRight 18 = .ok (.iload_n 2, 1) := by decide +kernel
theorem dX6_isRight_19 : decode cX6_isRight 19 = .ok (.iconst 1, 1) := by decide +kernel
theorem dX6_isRight_20 : decode cX6_isRight 20 = .ok (.iadd, 1) := by decide +kernel
theorem dX6_isRight_21 : decode cX6_isRight 21 = .ok (.aload_n 0, 1) := by decide +kernel
theorem dX6_isRight_22 : decode cX6_isRight 22 = .ok (.getfield 13, 3) := by decide +kernel
theorem dX6_isRight_25 : decode cX6_isRight 25 = .ok (.iload_n 1, 1) := by decide +kernel
theorem dX6_isRight_26 : decode cX6_isRight 26 = .ok (.iaload, 1) := by decide +kernel
theorem dX6_isRight_27 : decode cX6_isRight 27 = .ok (.if_icmp .ne 7, 3) := by decide +kernel
theorem dX6_isRight_30 : decode cX6_isRight 30 = .ok (.iconst 1, 1) := by decide +kernel
theorem dX6_isRight_31 : decode cX6_isRight 31 = .ok (.goto 4, 3) := by decide +kernel
theorem dX6_isRight_34 : decode cX6_isRight 34 = .ok (.iconst 0, 1) := by decide +kernel
theorem dX6_isRight_35 : decode cX6_isRight 35 = .ok (.istore 5, 2) := by decide +kernel
theorem dX6_isRight_37 : decode cX6_isRight 37 = .ok (.iload 5, 2) := by decide +kernel
theorem dX6_isRight_39 : decode cX6_isRight 39 = .ok (.ifCond .eq 17, 3) := by decide +kernel
theorem dX6_isRight_42 : decode cX6_isRight 42 = .ok (.iload 4, 2) := by decide +kernel
theorem dX6_isRight_44 : decode cX6_isRight 44 = .ok (.ifCond .eq 12, 3) := by decide +kernel
theorem dX6_isRight_47 : decode cX6_isRight 47 = .ok (.iload 4, 2) := by decide +kernel
theorem dX6_isRight_49 : decode cX6_isRight 49 = .ok (.bipush 7, 2) := by decide +kernel
theorem dX6_isRight_51 : decode cX6_isRight 51 = .ok (.if_icmp .eq 5, 3) := by decide +kernel
theorem dX6_isRight_54 : decode cX6_isRight 54 = .ok (.iconst 0, 1) := by decide +kernel
theorem dX6_isRight_55 : decode cX6_isRight 55 = .ok (.ireturn, 1) := by decide +kernel
theorem dX6_isRight_56 : decode cX6_isRight 56 = .ok (.iload 4, 2) := by decide +kernel
theorem dX6_isRight_58 : decode cX6_isRight 58 = .ok (.tableswitch 313 0 17 #[86, 114, 129, 129, 129, 129, 162, 190, 209, 209, 233, 233, 265, 265, 288, 114, 311, 311], 86) := by decide +kernel
theorem dX6_isRight_144 : decode cX6_isRight 144 = .ok (.iload_n 3, 1) := by decide +kernel
theorem dX6_isRight_145 : decode cX6_isRight 145 = .ok (.invokestatic 71, 3) := by decide +kernel
theorem dX6_isRight_148 : decode cX6_isRight 148 = .ok (.invokestatic 63, 3) := by decide +kernel
theorem dX6_isRight_151 : decode cX6_isRight 151 = .ok (.ifCond .eq 19, 3) := by decide +kernel
theorem dX6_isRight_154 : decode cX6_isRight 154 = .ok (.aload_n 0, 1) := by decide +kernel
theorem dX6_isRight_155 : decode cX6_isRight 155 = .ok (.getfield 13, 3) := by decide +kernel
theorem dX6_isRight_158 : decode cX6_isRight 158 = .ok (.iload_n 3, 1) := by decide +kernel
theorem dX6_isRight_159 : decode cX6_isRight 159 = .ok (.invokestatic 71, 3) := by decide +kernel
theorem dX6_isRight_162 : decode cX6_isRight 162 = .ok (.iaload, 1) := by decide +kernel
theorem dX6_isRight_163 : decode cX6_isRight 163 = .ok (.ifCond .le 7, 3) := by decide +kernel
theorem dX6_isRight_166 : decode cX6_isRight 166 = .ok (.iconst 1, 1) := by decide +kernel
theorem dX6_isRight_167 : decode cX6_isRight 167 = .ok (.goto 4, 3) := by decide +kernel
theorem dX6_isRight_170 : decode cX6_isRight 170 = .ok (.iconst 0, 1) := by decide +kernel
theorem dX6_isRight_171 : decode cX6_isRight 171 = .ok (.ireturn, 1) := by decide +kernel
theorem dX6_isRight_172 : decode cX6_isRight 172 = .ok (.iload_n 3, 1) := by decide +kernel
theorem dX6_isRight_173 : decode cX6_isRight 173 = .ok (.invokestatic 71, 3) := by decide +kernel
theorem dX6_isRight_176 : decode cX6_isRight 176 = .ok (.bipush 8, 2) := by decide +kernel
theorem dX6_isRight_178 : decode cX6_isRight 178 = .ok (.if_icmp .ge 7, 3) := by decide +kernel
theorem dX6_isRight_181 : decode cX6_isRight 181 = .ok (.iconst 1, 1) := by decide +kernel
theorem dX6_isRight_182 : decode cX6_isRight 182 = .ok (.goto 4, 3) := by decide +kernel
theorem dX6_isRight_185 : decode cX6_isRight 185 = .ok (.iconst 0, 1) := by decide +kernel
theorem dX6_isRight_186 : decode cX6_isRight 186 = .ok (.ireturn, 1) := by decide +kernel
theorem dX6_isRight_187 : decode cX6_isRight 187 = .ok (.iload_n 3, 1) := by decide +kernel
theorem dX6_isRight_188 : decode cX6_isRight 188 = .ok (.invokestatic 71, 3) := by decide +kernel
theorem dX6_isRight_191 : decode cX6_isRight 191 = .ok (.bipush 8, 2) := by decide +kernel
theorem dX6_isRight_193 : decode cX6_isRight 193 = .ok (.if_icmp .ge 25, 3) := by decide +kernel
theorem dX6_isRight_196 : decode cX6_isRight 196 = .ok (.iload_n 3, 1) := by decide +kernel
theorem dX6_isRight_197 : decode cX6_isRight 197 = .ok (.invokestatic 74, 3) := by decide +kernel
theorem dX6_isRight_200 : decode cX6_isRight 200 = .ok (.bipush 8, 2) := by decide +kernel
theorem dX6_isRight_202 : decode cX6_isRight 202 = .ok (.if_icmp .ge 16, 3) := by decide +kernel
theorem dX6_isRight_205 : decode cX6_isRight 205 = .ok (.iload_n 3, 1) := by decide +kernel
theorem dX6_isRight_206 : decode cX6_isRight 206 = .ok (.invokestatic 77, 3) := by decide +kernel
theorem dX6_isRight_209 : decode cX6_isRight 209 = .ok (.bipush 8, 2) := by decide +kernel
theorem dX6_isRight_211 : decode cX6_isRight 211 = .ok (.if_icmp .ge 7, 3) := by decide +kernel
theorem dX6_isRight_214 : decode cX6_isRight 214 = .ok (.iconst 1, 1) := by decide +kernel
theorem dX6_isRight_215 : decode cX6_isRight 215 = .ok (.goto 4, 3) := by decide +kernel
theorem dX6_isRight_218 : decode cX6_isRight 218 = .ok (.iconst 0, 1) := by decide +kernel
theorem dX6_isRight_219 : decode cX6_isRight 219 = .ok (.ireturn, 1) := by decide +kernel
theorem dX6_isRight_220 : decode cX6_isRight 220 = .ok (.iload_n 3, 1) := by decide +kernel
theorem dX6_isRight_221 : decode cX6_isRight 221 = .ok (.invokestatic 71, 3) := by decide +kernel
theorem dX6_isRight_224 : decode cX6_isRight 224 = .ok (.bipush 8, 2) := by decide +kernel
theorem dX6_isRight_226 : decode cX6_isRight 226 = .ok (.if_icmp .ge 20, 3) := by decide +kernel
theorem dX6_isRight_229 : decode cX6_isRight 229 = .ok (.iload_n 3, 1) := by decide +kernel
theorem dX6_isRight_230 : decode cX6_isRight 230 = .ok (.invokestatic 74, 3) := by decide +kernel
theorem dX6_isRight_233 : decode cX6_isRight 233 = .ok (.aload_n 0, 1) := by decide +kernel
theorem dX6_isRight_234 : decode cX6_isRight 234 = .ok (.getfield 13, 3) := by decide +kernel
theorem dX6_isRight_237 : decode cX6_isRight 237 = .ok (.iload_n 1, 1) := by decide +kernel
theorem dX6_isRight_238 : decode cX6_isRight 238 = .ok (.iaload, 1) := by decide +kernel
theorem dX6_isRight_239 : decode cX6_isRight 239 = .ok (.if_icmp .ge 7, 3) := by decide +kernel
theorem dX6_isRight_242 : decode cX6_isRight 242 = .ok (.iconst 1, 1) := by decide +kernel
theorem dX6_isRight_243 : decode cX6_isRight 243 = .ok (.goto 4, 3) := by decide +kernel
theorem dX6_isRight_246 : decode cX6_isRight 246 = .ok (.iconst 0, 1) := by decide +kernel
theorem dX6_isRight_247 : decode cX6_isRight 247 = .ok (.ireturn, 1) := by decide +kernel
theorem dX6_isRight_248 : decode cX6_isRight 248 = .ok (.iload_n 3, 1) := by decide +kernel
theorem dX6_isRight_249 : decode cX6_isRight 249 = .ok (.invokestatic 74, 3) := by decide +kernel
theorem dX6_isRight_252 : decode cX6_isRight 252 = .ok (.aload_n 0, 1) := by decide +kernel
theorem dX6_isRight_253 : decode cX6_isRight 253 = .ok (.getfield 13, 3) := by decide +kernel
theorem dX6_isRight_256 : decode cX6_isRight 256 = .ok (.iload_n 1, 1) := by decide +kernel
theorem dX6_isRight_257 : decode cX6_isRight 257 = .ok (.iaload, 1) := by decide +kernel
theorem dX6_isRight_258 : decode cX6_isRight 258 = .ok (.if_icmp .ge 7, 3) := by decide +kernel
theorem dX6_isRight_261 : decode cX6_isRight 261 = .ok (.iconst 1, 1) := by decide +kernel
theorem dX6_isRight_262 : decode cX6_isRight 262 = .ok (.goto 4, 3) := by decide +kernel
theorem dX6_isRight_265 : decode cX6_isRight 265 = .ok (.iconst 0, 1) := by decide +kernel
theorem dX6_isRight_266 : decode cX6_isRight 266 = .ok (.ireturn, 1) := by decide +kernel
theorem dX6_isRight_267 : decode cX6_isRight 267 = .ok (.iload_n 3, 1) := by decide +kernel
theorem dX6_isRight_268 : decode cX6_isRight 268 = .ok (.invokestatic 71, 3) := by decide +kernel
theorem dX6_isRight_271 : decode cX6_isRight 271 = .ok (.bipush 8, 2) := by decide +kernel
theorem dX6_isRight_273 : decode cX6_isRight 273 = .ok (.if_icmp .ge 16, 3) := by decide +kernel
theorem dX6_isRight_276 : decode cX6_isRight 276 = .ok (.iload_n 3, 1) := by decide +kernel
theorem dX6_isRight_277 : decode cX6_isRight 277 = .ok (.invokestatic 74, 3) := by decide +kernel
theorem dX6_isRight_280 : decode cX6_isRight 280 = .ok (.bipush 16, 2) := by decide +kernel
theorem dX6_isRight_282 : decode cX6_isRight 282 = .ok (.if_icmp .ge 7, 3) := by decide +kernel
theorem dX6_isRight_285 : decode cX6_isRight 285 = .ok (.iconst 1, 1) := by decide +kernel
theorem dX6_isRight_286 : decode cX6_isRight 286 = .ok (.goto 4, 3) := by decide +kernel
theorem dX6_isRight_289 : decode cX6_isRight 289 = .ok (.iconst 0, 1) := by decide +kernel
theorem dX6_isRight_290 : decode cX6_isRight 290 = .ok (.ireturn, 1) := by decide +kernel
theorem dX6_isRight_291 : decode cX6_isRight 291 = .ok (.iload_n 3, 1) := by decide +kernel
theorem dX6_isRight_292 : decode cX6_isRight 292 = .ok (.invokestatic 71, 3) := by decide +kernel
theorem dX6_isRight_295 : decode cX6_isRight 295 = .ok (.bipush 8, 2) := by decide +kernel
theorem dX6_isRight_297 : decode cX6_isRight 297 = .ok (.if_icmp .ge 24, 3) := by decide +kernel
theorem dX6_isRight_300 : decode cX6_isRight 300 = .ok (.iload_n 3, 1) := by decide +kernel
theorem dX6_isRight_301 : decode cX6_isRight 301 = .ok (.invokestatic 74, 3) := by decide +kernel
theorem dX6_isRight_304 : decode cX6_isRight 304 = .ok (.iconst 4, 1) := by decide +kernel
theorem dX6_isRight_305 : decode cX6_isRight 305 = .ok (.if_icmp .ge 16, 3) := by decide +kernel
theorem dX6_isRight_308 : decode cX6_isRight 308 = .ok (.iload_n 3, 1) := by decide +kernel
theorem dX6_isRight_309 : decode cX6_isRight 309 = .ok (.invokestatic 77, 3) := by decide +kernel
theorem dX6_isRight_312 : decode cX6_isRight 312 = .ok (.bipush 8, 2) := by decide +kernel
theorem dX6_isRight_314 : decode cX6_isRight 314 = .ok (.if_icmp .ge 7, 3) := by decide +kernel
theorem dX6_isRight_317 : decode cX6_isRight 317 = .ok (.iconst 1, 1) := by decide +kernel
theorem dX6_isRight_318 : decode cX6_isRight 318 = .ok (.goto 4, 3) := by decide +kernel
theorem dX6_isRight_321 : decode cX6_isRight 321 = .ok (.iconst 0, 1) := by decide +kernel
theorem dX6_isRight_322 : decode cX6_isRight 322 = .ok (.ireturn, 1) := by decide +kernel
theorem dX6_isRight_323 : decode cX6_isRight 323 = .ok (.iload_n 3, 1) := by decide +kernel
theorem dX6_isRight_324 : decode cX6_isRight 324 = .ok (.invokestatic 71, 3) := by decide +kernel
theorem dX6_isRight_327 : decode cX6_isRight 327 = .ok (.bipush 8, 2) := by decide +kernel
theorem dX6_isRight_329 : decode cX6_isRight 329 = .ok (.if_icmp .ge 15, 3) := by decide +kernel
theorem dX6_isRight_332 : decode cX6_isRight 332 = .ok (.iload_n 3, 1) := by decide +kernel
theorem dX6_isRight_333 : decode cX6_isRight 333 = .ok (.invokestatic 74, 3) := by decide +kernel
theorem dX6_isRight_336 : decode cX6_isRight 336 = .ok (.iconst 2, 1) := by decide +kernel
theorem dX6_isRight_337 : decode cX6_isRight 337 = .ok (.if_icmp .ge 7, 3) := by decide +kernel
theorem dX6_isRight_340 : decode cX6_isRight 340 = .ok (.iconst 1, 1) := by decide +kernel
theorem dX6_isRight_341 : decode cX6_isRight 341 = .ok (.goto 4, 3) := by decide +kernel
theorem dX6_isRight_344 : decode cX6_isRight 344 = .ok (.iconst 0, 1) := by decide +kernel
theorem dX6_isRight_345 : decode cX6_isRight 345 = .ok (.ireturn, 1) := by decide +kernel
theorem dX6_isRight_346 : decode cX6_isRight 346 = .ok (.iload_n 3, 1) := by decide +kernel
theorem dX6_isRight_347 : decode cX6_isRight 347 = .ok (.invokestatic 71, 3) := by decide +kernel
theorem dX6_isRight_350 : decode cX6_isRight 350 = .ok (.bipush 8, 2) := by decide +kernel
theorem dX6_isRight_352 : decode cX6_isRight 352 = .ok (.if_icmp .ge 15, 3) := by decide +kernel
theorem dX6_isRight_355 : decode cX6_isRight 355 = .ok (.iload_n 3, 1) := by decide +kernel
theorem dX6_isRight_356 : decode cX6_isRight 356 = .ok (.invokestatic 74, 3) := by decide +kernel
theorem dX6_isRight_359 : decode cX6_isRight 359 = .ok (.iconst 4, 1) := by decide +kernel
theorem dX6_isRight_360 : decode cX6_isRight 360 = .ok (.if_icmp .ge 7, 3) := by decide +kernel
theorem dX6_isRight_363 : decode cX6_isRight 363 = .ok (.iconst 1, 1) := by decide +kernel
theorem dX6_isRight_364 : decode cX6_isRight 364 = .ok (.goto 4, 3) := by decide +kernel
theorem dX6_isRight_367 : decode cX6_isRight 367 = .ok (.iconst 0, 1) := by decide +kernel
theorem dX6_isRight_368 : decode cX6_isRight 368 = .ok (.ireturn, 1) := by decide +kernel
theorem dX6_isRight_369 : decode cX6_isRight 369 = .ok (.iconst 1, 1) := by decide +kernel
theorem dX6_isRight_370 : decode cX6_isRight 370 = .ok (.ireturn, 1) := by decide +kernel
theorem dX6_isRight_371 : decode cX6_isRight 371 = .ok (.iconst 0, 1) := by decide +kernel
theorem dX6_isRight_372 : decode cX6_isRight 372 = .ok (.ireturn, 1) := by decide +kernel
theorem dX6_seal_0 : decode cX6_seal 0 = .ok (.aload_n 0, 1) := by decide +kernel
theorem dX6_seal_1 : decode cX6_seal 1 = .ok (.iconst 0, 1) := by decide +kernel
theorem dX6_seal_2 : decode cX6_seal 2 = .ok (.putfield 56, 3) := by decide +kernel
theorem dX6_seal_5 : decode cX6_seal 5 = .ok (.aload_n 0, 1) := by decide +kernel
theorem dX6_seal_6 : decode cX6_seal 6 = .ok (.getfield 59, 3) := by decide +kernel
theorem dX6_seal_9 : decode cX6_seal 9 = .ok (.ifCond .eq 5, 3) := by decide +kernel
theorem dX6_seal_12 : decode cX6_seal 12 = .ok (.iconst 0, 1) := by decide +kernel
theorem dX6_seal_13 : decode cX6_seal 13 = .ok (.ireturn, 1) := by decide +kernel
theorem dX6_seal_14 : decode cX6_seal 14 = .ok (.aload_n 0, 1) := by decide +kernel
theorem dX6_seal_15 : decode cX6_seal 15 = .ok (.getfield 13, 3) := by decide +kernel
theorem dX6_seal_18 : decode cX6_seal 18 = .ok (.iconst 0, 1) := by decide +kernel
theorem dX6_seal_19 : decode cX6_seal 19 = .ok (.iaload, 1) := by decide +kernel
theorem dX6_seal_20 : decode cX6_seal 20 = .ok (.ifCond .ne 5, 3) := by decide +kernel
theorem dX6_seal_23 : decode cX6_seal 23 = .ok (.iconst 1, 1) := by decide +kernel
theorem dX6_seal_24 : decode cX6_seal 24 = .ok (.ireturn, 1) := by decide +kernel
theorem dX6_seal_25 : decode cX6_seal 25 = .ok (.iconst 0, 1) := by decide +kernel
theorem dX6_seal_26 : decode cX6_seal 26 = .ok (.istore_n 1, 1) := by decide +kernel
theorem dX6_seal_27 : decode cX6_seal 27 = .ok (.iload_n 1, 1) := by decide +kernel
theorem dX6_seal_28 : decode cX6_seal 28 = .ok (.bipush 16, 2) := by decide +kernel
theorem dX6_seal_30 : decode cX6_seal 30 = .ok (.if_icmp .ge 45, 3) := by decide +kernel
theorem dX6_seal_33 : decode cX6_seal 33 = .ok (.iconst 0, 1) := by decide +kernel
theorem dX6_seal_34 : decode cX6_seal 34 = .ok (.istore_n 2, 1) := by decide +kernel
theorem dX6_seal_35 : decode cX6_seal 35 = .ok (.iload_n 2, 1) := by decide +kernel
theorem dX6_seal_36 : decode cX6_seal 36 = .ok (.aload_n 0, 1) := by decide +kernel
theorem dX6_seal_37 : decode cX6_seal 37 = .ok (.getfield 13, 3) := by decide +kernel
theorem dX6_seal_40 : decode cX6_seal 40 = .ok (.iload_n 1, 1) := by decide +kernel
theorem dX6_seal_41 : decode cX6_seal 41 = .ok (.iaload, 1) := by decide +kernel
theorem dX6_seal_42 : decode cX6_seal 42 = .ok (.if_icmp .ge 27, 3) := by decide +kernel
theorem dX6_seal_45 : decode cX6_seal 45 = .ok (.aload_n 0, 1) := by decide +kernel
theorem dX6_seal_46 : decode cX6_seal 46 = .ok (.iload_n 1, 1) := by decide +kernel
theorem dX6_seal_47 : decode cX6_seal 47 = .ok (.iload_n 2, 1) := by decide +kernel
theorem dX6_seal_48 : decode cX6_seal 48 = .ok (.invokevirtual 80, 3) := by decide +kernel
theorem dX6_seal_51 : decode cX6_seal 51 = .ok (.ifCond .ne 12, 3) := by decide +kernel
theorem dX6_seal_54 : decode cX6_seal 54 = .ok (.iconst 1, 1) := by decide +kernel
theorem dX6_seal_55 : decode cX6_seal 55 = .ok (.bipush 32, 2) := by decide +kernel
theorem dX6_seal_57 : decode cX6_seal 57 = .ok (.iload_n 1, 1) := by decide +kernel
theorem dX6_seal_58 : decode cX6_seal 58 = .ok (.imul, 1) := by decide +kernel
theorem dX6_seal_59 : decode cX6_seal 59 = .ok (.iadd, 1) := by decide +kernel
theorem dX6_seal_60 : decode cX6_seal 60 = .ok (.iload_n 2, 1) := by decide +kernel
theorem dX6_seal_61 : decode cX6_seal 61 = .ok (.iadd, 1) := by decide +kernel
theorem dX6_seal_62 : decode cX6_seal 62 = .ok (.ireturn, 1) := by decide +kernel
theorem dX6_seal_63 : decode cX6_seal 63 = .ok (.iinc 2 1, 3) := by decide +kernel
theorem dX6_seal_66 : decode cX6_seal 66 = .ok (.goto (-31), 3) := by decide +kernel
theorem dX6_seal_69 : decode cX6_seal 69 = .ok (.iinc 1 1, 3) := by decide +kernel
theorem dX6_seal_72 : decode cX6_seal 72 = .ok (.goto (-45), 3) := by decide +kernel
theorem dX6_seal_75 : decode cX6_seal 75 = .ok (.aload_n 0, 1) := by decide +kernel
theorem dX6_seal_76 : decode cX6_seal 76 = .ok (.iconst 1, 1) := by decide +kernel
theorem dX6_seal_77 : decode cX6_seal 77 = .ok (.putfield 59, 3) := by decide +kernel
theorem dX6_seal_80 : decode cX6_seal 80 = .ok (.iconst 0, 1) := by decide +kernel
theorem dX6_seal_81 : decode cX6_seal 81 = .ok (.ireturn, 1) := by decide +kernel
theorem dX6_write_0 : decode cX6_write 0 = .ok (.aload_n 0, 1) := by decide +kernel
theorem dX6_write_1 : decode cX6_write 1 = .ok (.getfield 16, 3) := by decide +kernel
theorem dX6_write_4 : decode cX6_write 4 = .ok (.iload_n 1, 1) := by decide +kernel
theorem dX6_write_5 : decode cX6_write 5 = .ok (.iload_n 2, 1) := by decide +kernel
theorem dX6_write_6 : decode cX6_write 6 = .ok (.iastore, 1) := by decide +kernel
theorem dX6_write_7 : decode cX6_write 7 = .ok (.aload_n 0, 1) := by decide +kernel
theorem dX6_write_8 : decode cX6_write 8 = .ok (.getfield 19, 3) := by decide +kernel
theorem dX6_write_11 : decode cX6_write 11 = .ok (.iload_n 1, 1) := by decide +kernel
theorem dX6_write_12 : decode cX6_write 12 = .ok (.dup2, 1) := by decide +kernel
theorem dX6_write_13 : decode cX6_write 13 = .ok (.iaload, 1) := by decide +kernel
theorem dX6_write_14 : decode cX6_write 14 = .ok (.iconst 1, 1) := by decide +kernel
theorem dX6_write_15 : decode cX6_write 15 = .ok (.iadd, 1) := by decide +kernel
theorem dX6_write_16 : decode cX6_write 16 = .ok (.iastore, 1) := by decide +kernel
theorem dX6_write_17 : decode cX6_write 17 = .ok (.return_, 1) := by decide +kernel
theorem dX6_place_0 : decode cX6_place 0 = .ok (.iconst 0, 1) := by decide +kernel
theorem dX6_place_1 : decode cX6_place 1 = .ok (.istore_n 2, 1) := by decide +kernel
theorem dX6_place_2 : decode cX6_place 2 = .ok (.iload_n 2, 1) := by decide +kernel
theorem dX6_place_3 : decode cX6_place 3 = .ok (.aload_n 0, 1) := by decide +kernel
theorem dX6_place_4 : decode cX6_place 4 = .ok (.getfield 84, 3) := by decide +kernel
theorem dX6_place_7 : decode cX6_place 7 = .ok (.if_icmp .ge 21, 3) := by decide +kernel
theorem dX6_place_10 : decode cX6_place 10 = .ok (.aload_n 0, 1) := by decide +kernel
theorem dX6_place_11 : decode cX6_place 11 = .ok (.getfield 38, 3) := by decide +kernel
theorem dX6_place_14 : decode cX6_place 14 = .ok (.iload_n 2, 1) := by decide +kernel
theorem dX6_place_15 : decode cX6_place 15 = .ok (.iaload, 1) := by decide +kernel
theorem dX6_place_16 : decode cX6_place 16 = .ok (.iload_n 1, 1) := by decide +kernel
theorem dX6_place_17 : decode cX6_place 17 = .ok (.if_icmp .ne 5, 3) := by decide +kernel
theorem dX6_place_20 : decode cX6_place 20 = .ok (.iload_n 2, 1) := by decide +kernel
theorem dX6_place_21 : decode cX6_place 21 = .ok (.ireturn, 1) := by decide +kernel
theorem dX6_place_22 : decode cX6_place 22 = .ok (.iinc 2 1, 3) := by decide +kernel
theorem dX6_place_25 : decode cX6_place 25 = .ok (.goto (-23), 3) := by decide +kernel
theorem dX6_place_28 : decode cX6_place 28 = .ok (.iconst (-1), 1) := by decide +kernel
theorem dX6_place_29 : decode cX6_place 29 = .ok (.ireturn, 1) := by decide +kernel
theorem dX6_see_0 : decode cX6_see 0 = .ok (.aload_n 0, 1) := by decide +kernel
theorem dX6_see_1 : decode cX6_see 1 = .ok (.iload_n 1, 1) := by decide +kernel
theorem dX6_see_2 : decode cX6_see 2 = .ok (.invokevirtual 87, 3) := by decide +kernel
theorem dX6_see_5 : decode cX6_see 5 = .ok (.istore_n 2, 1) := by decide +kernel
theorem dX6_see_6 : decode cX6_see 6 = .ok (.iload_n 2, 1) := by decide +kernel
theorem dX6_see_7 : decode cX6_see 7 = .ok (.iconst (-1), 1) := by decide +kernel
theorem dX6_see_8 : decode cX6_see 8 = .ok (.if_icmp .ne 12, 3) := by decide +kernel
theorem dX6_see_11 : decode cX6_see 11 = .ok (.aload_n 0, 1) := by decide +kernel
theorem dX6_see_12 : decode cX6_see 12 = .ok (.getfield 16, 3) := by decide +kernel
theorem dX6_see_15 : decode cX6_see 15 = .ok (.iload_n 1, 1) := by decide +kernel
theorem dX6_see_16 : decode cX6_see 16 = .ok (.iaload, 1) := by decide +kernel
theorem dX6_see_17 : decode cX6_see 17 = .ok (.goto 9, 3) := by decide +kernel
theorem dX6_see_20 : decode cX6_see 20 = .ok (.aload_n 0, 1) := by decide +kernel
theorem dX6_see_21 : decode cX6_see 21 = .ok (.getfield 41, 3) := by decide +kernel
theorem dX6_see_24 : decode cX6_see 24 = .ok (.iload_n 2, 1) := by decide +kernel
theorem dX6_see_25 : decode cX6_see 25 = .ok (.iaload, 1) := by decide +kernel
theorem dX6_see_26 : decode cX6_see 26 = .ok (.ireturn, 1) := by decide +kernel
theorem dX6_put_0 : decode cX6_put 0 = .ok (.aload_n 0, 1) := by decide +kernel
theorem dX6_put_1 : decode cX6_put 1 = .ok (.iload_n 1, 1) := by decide +kernel
theorem dX6_put_2 : decode cX6_put 2 = .ok (.invokevirtual 87, 3) := by decide +kernel
theorem dX6_put_5 : decode cX6_put 5 = .ok (.istore_n 3, 1) := by decide +kernel
theorem dX6_put_6 : decode cX6_put 6 = .ok (.iload_n 3, 1) := by decide +kernel
theorem dX6_put_7 : decode cX6_put 7 = .ok (.iconst (-1), 1) := by decide +kernel
theorem dX6_put_8 : decode cX6_put 8 = .ok (.if_icmp .ne 25, 3) := by decide +kernel
theorem dX6_put_11 : decode cX6_put 11 = .ok (.aload_n 0, 1) := by decide +kernel
theorem dX6_put_12 : decode cX6_put 12 = .ok (.getfield 84, 3) := by decide +kernel
theorem dX6_put_15 : decode cX6_put 15 = .ok (.istore_n 3, 1) := by decide +kernel
theorem dX6_put_16 : decode cX6_put 16 = .ok (.aload_n 0, 1) := by decide +kernel
theorem dX6_put_17 : decode cX6_put 17 = .ok (.dup, 1) := by decide +kernel
theorem dX6_put_18 : decode cX6_put 18 = .ok (.getfield 84, 3) := by decide +kernel
theorem dX6_put_21 : decode cX6_put 21 = .ok (.iconst 1, 1) := by decide +kernel
theorem dX6_put_22 : decode cX6_put 22 = .ok (.iadd, 1) := by decide +kernel
theorem dX6_put_23 : decode cX6_put 23 = .ok (.putfield 84, 3) := by decide +kernel
theorem dX6_put_26 : decode cX6_put 26 = .ok (.aload_n 0, 1) := by decide +kernel
theorem dX6_put_27 : decode cX6_put 27 = .ok (.getfield 38, 3) := by decide +kernel
theorem dX6_put_30 : decode cX6_put 30 = .ok (.iload_n 3, 1) := by decide +kernel
theorem dX6_put_31 : decode cX6_put 31 = .ok (.iload_n 1, 1) := by decide +kernel
theorem dX6_put_32 : decode cX6_put 32 = .ok (.iastore, 1) := by decide +kernel
theorem dX6_put_33 : decode cX6_put 33 = .ok (.aload_n 0, 1) := by decide +kernel
theorem dX6_put_34 : decode cX6_put 34 = .ok (.getfield 41, 3) := by decide +kernel
theorem dX6_put_37 : decode cX6_put 37 = .ok (.iload_n 3, 1) := by decide +kernel
theorem dX6_put_38 : decode cX6_put 38 = .ok (.iload_n 2, 1) := by decide +kernel
theorem dX6_put_39 : decode cX6_put 39 = .ok (.iastore, 1) := by decide +kernel
theorem dX6_put_40 : decode cX6_put 40 = .ok (.return_, 1) := by decide +kernel
theorem dX6_hasRoom_0 : decode cX6_hasRoom 0 = .ok (.aload_n 0, 1) := by decide +kernel
theorem dX6_hasRoom_1 : decode cX6_hasRoom 1 = .ok (.iload_n 1, 1) := by decide +kernel
theorem dX6_hasRoom_2 : decode cX6_hasRoom 2 = .ok (.invokevirtual 87, 3) := by decide +kernel
theorem dX6_hasRoom_5 : decode cX6_hasRoom 5 = .ok (.iconst (-1), 1) := by decide +kernel
theorem dX6_hasRoom_6 : decode cX6_hasRoom 6 = .ok (.if_icmp .ne 7, 3) := by decide +kernel
theorem dX6_hasRoom_9 : decode cX6_hasRoom 9 = .ok (.iconst 1, 1) := by decide +kernel
theorem dX6_hasRoom_10 : decode cX6_hasRoom 10 = .ok (.goto 4, 3) := by decide +kernel
theorem dX6_hasRoom_13 : decode cX6_hasRoom 13 = .ok (.iconst 0, 1) := by decide +kernel
theorem dX6_hasRoom_14 : decode cX6_hasRoom 14 = .ok (.istore_n 3, 1) := by decide +kernel
theorem dX6_hasRoom_15 : decode cX6_hasRoom 15 = .ok (.iload_n 2, 1) := by decide +kernel
theorem dX6_hasRoom_16 : decode cX6_hasRoom 16 = .ok (.iload_n 1, 1) := by decide +kernel
theorem dX6_hasRoom_17 : decode cX6_hasRoom 17 = .ok (.if_icmp .eq 15, 3) := by decide +kernel
theorem dX6_hasRoom_20 : decode cX6_hasRoom 20 = .ok (.aload_n 0, 1) := by decide +kernel
theorem dX6_hasRoom_21 : decode cX6_hasRoom 21 = .ok (.iload_n 2, 1) := by decide +kernel
theorem dX6_hasRoom_22 : decode cX6_hasRoom 22 = .ok (.invokevirtual 87, 3) := by decide +kernel
theorem dX6_hasRoom_25 : decode cX6_hasRoom 25 = .ok (.iconst (-1), 1) := by decide +kernel
theorem dX6_hasRoom_26 : decode cX6_hasRoom 26 = .ok (.if_icmp .ne 6, 3) := by decide +kernel
theorem dX6_hasRoom_29 : decode cX6_hasRoom 29 = .ok (.iinc 3 1, 3) := by decide +kernel
theorem dX6_hasRoom_32 : decode cX6_hasRoom 32 = .ok (.aload_n 0, 1) := by decide +kernel
theorem dX6_hasRoom_33 : decode cX6_hasRoom 33 = .ok (.getfield 84, 3) := by decide +kernel
theorem dX6_hasRoom_36 : decode cX6_hasRoom 36 = .ok (.iload_n 3, 1) := by decide +kernel
theorem dX6_hasRoom_37 : decode cX6_hasRoom 37 = .ok (.iadd, 1) := by decide +kernel
theorem dX6_hasRoom_38 : decode cX6_hasRoom 38 = .ok (.bipush 38, 2) := by decide +kernel
theorem dX6_hasRoom_40 : decode cX6_hasRoom 40 = .ok (.if_icmp .gt 7, 3) := by decide +kernel
theorem dX6_hasRoom_43 : decode cX6_hasRoom 43 = .ok (.iconst 1, 1) := by decide +kernel
theorem dX6_hasRoom_44 : decode cX6_hasRoom 44 = .ok (.goto 4, 3) := by decide +kernel
theorem dX6_hasRoom_47 : decode cX6_hasRoom 47 = .ok (.iconst 0, 1) := by decide +kernel
theorem dX6_hasRoom_48 : decode cX6_hasRoom 48 = .ok (.ireturn, 1) := by decide +kernel
theorem dX6_fail_0 : decode cX6_fail 0 = .ok (.aload_n 0, 1) := by decide +kernel
theorem dX6_fail_1 : decode cX6_fail 1 = .ok (.dup, 1) := by decide +kernel
theorem dX6_fail_2 : decode cX6_fail 2 = .ok (.getfield 90, 3) := by decide +kernel
theorem dX6_fail_5 : decode cX6_fail 5 = .ok (.iconst 1, 1) := by decide +kernel
theorem dX6_fail_6 : decode cX6_fail 6 = .ok (.iadd, 1) := by decide +kernel
theorem dX6_fail_7 : decode cX6_fail 7 = .ok (.putfield 90, 3) := by decide +kernel
theorem dX6_fail_10 : decode cX6_fail 10 = .ok (.aload_n 0, 1) := by decide +kernel
theorem dX6_fail_11 : decode cX6_fail 11 = .ok (.getfield 93, 3) := by decide +kernel
theorem dX6_fail_14 : decode cX6_fail 14 = .ok (.iconst 3, 1) := by decide +kernel
theorem dX6_fail_15 : decode cX6_fail 15 = .ok (.if_icmp .eq 20, 3) := by decide +kernel
theorem dX6_fail_18 : decode cX6_fail 18 = .ok (.aload_n 0, 1) := by decide +kernel
theorem dX6_fail_19 : decode cX6_fail 19 = .ok (.getfield 93, 3) := by decide +kernel
theorem dX6_fail_22 : decode cX6_fail 22 = .ok (.iconst 4, 1) := by decide +kernel
theorem dX6_fail_23 : decode cX6_fail 23 = .ok (.if_icmp .ne 96, 3) := by decide +kernel
theorem dX6_fail_26 : decode cX6_fail 26 = .ok (.aload_n 0, 1) := by decide +kernel
theorem dX6_fail_27 : decode cX6_fail 27 = .ok (.getfield 16, 3) := by decide +kernel
theorem dX6_fail_30 : decode cX6_fail 30 = .ok (.iconst 2, 1) := by decide +kernel
theorem dX6_fail_31 : decode cX6_fail 31 = .ok (.iaload, 1) := by decide +kernel
theorem dX6_fail_32 : decode cX6_fail 32 = .ok (.ifCond .ne 87, 3) := by decide +kernel
theorem dX6_fail_35 : decode cX6_fail 35 = .ok (.aload_n 0, 1) := by decide +kernel
theorem dX6_fail_36 : decode cX6_fail 36 = .ok (.getfield 16, 3) := by decide +kernel
theorem dX6_fail_39 : decode cX6_fail 39 = .ok (.iconst 0, 1) := by decide +kernel
theorem dX6_fail_40 : decode cX6_fail 40 = .ok (.iaload, 1) := by decide +kernel
theorem dX6_fail_41 : decode cX6_fail 41 = .ok (.istore_n 1, 1) := by decide +kernel
theorem dX6_fail_42 : decode cX6_fail 42 = .ok (.aload_n 0, 1) := by decide +kernel
theorem dX6_fail_43 : decode cX6_fail 43 = .ok (.getfield 28, 3) := by decide +kernel
theorem dX6_fail_46 : decode cX6_fail 46 = .ok (.iload_n 1, 1) := by decide +kernel
theorem dX6_fail_47 : decode cX6_fail 47 = .ok (.dup2, 1) := by decide +kernel
theorem dX6_fail_48 : decode cX6_fail 48 = .ok (.iaload, 1) := by decide +kernel
theorem dX6_fail_49 : decode cX6_fail 49 = .ok (.iconst 1, 1) := by decide +kernel
theorem dX6_fail_50 : decode cX6_fail 50 = .ok (.iadd, 1) := by decide +kernel
theorem dX6_fail_51 : decode cX6_fail 51 = .ok (.iastore, 1) := by decide +kernel
theorem dX6_fail_52 : decode cX6_fail 52 = .ok (.aload_n 0, 1) := by decide +kernel
theorem dX6_fail_53 : decode cX6_fail 53 = .ok (.getfield 25, 3) := by decide +kernel
theorem dX6_fail_56 : decode cX6_fail 56 = .ok (.iload_n 1, 1) := by decide +kernel
theorem dX6_fail_57 : decode cX6_fail 57 = .ok (.iaload, 1) := by decide +kernel
theorem dX6_fail_58 : decode cX6_fail 58 = .ok (.aload_n 0, 1) := by decide +kernel
theorem dX6_fail_59 : decode cX6_fail 59 = .ok (.getfield 96, 3) := by decide +kernel
theorem dX6_fail_62 : decode cX6_fail 62 = .ok (.if_icmp .le 12, 3) := by decide +kernel
theorem dX6_fail_65 : decode cX6_fail 65 = .ok (.aload_n 0, 1) := by decide +kernel
theorem dX6_fail_66 : decode cX6_fail 66 = .ok (.getfield 25, 3) := by decide +kernel
theorem dX6_fail_69 : decode cX6_fail 69 = .ok (.iload_n 1, 1) := by decide +kernel
theorem dX6_fail_70 : decode cX6_fail 70 = .ok (.iaload, 1) := by decide +kernel
theorem dX6_fail_71 : decode cX6_fail 71 = .ok (.goto 7, 3) := by decide +kernel
theorem dX6_fail_74 : decode cX6_fail 74 = .ok (.aload_n 0, 1) := by decide +kernel
theorem dX6_fail_75 : decode cX6_fail 75 = .ok (.getfield 96, 3) := by decide +kernel
theorem dX6_fail_78 : decode cX6_fail 78 = .ok (.istore_n 2, 1) := by decide +kernel
theorem dX6_fail_79 : decode cX6_fail 79 = .ok (.aload_n 0, 1) := by decide +kernel
theorem dX6_fail_80 : decode cX6_fail 80 = .ok (.getfield 25, 3) := by decide +kernel
theorem dX6_fail_83 : decode cX6_fail 83 = .ok (.iload_n 1, 1) := by decide +kernel
theorem dX6_fail_84 : decode cX6_fail 84 = .ok (.iconst 2, 1) := by decide +kernel
theorem dX6_fail_85 : decode cX6_fail 85 = .ok (.iload_n 2, 1) := by decide +kernel
theorem dX6_fail_86 : decode cX6_fail 86 = .ok (.imul, 1) := by decide +kernel
theorem dX6_fail_87 : decode cX6_fail 87 = .ok (.sipush 1940, 3) := by decide +kernel
theorem dX6_fail_90 : decode cX6_fail 90 = .ok (.if_icmp .le 9, 3) := by decide +kernel
theorem dX6_fail_93 : decode cX6_fail 93 = .ok (.sipush 1940, 3) := by decide +kernel
theorem dX6_fail_96 : decode cX6_fail 96 = .ok (.goto 6, 3) := by decide +kernel
theorem dX6_fail_99 : decode cX6_fail 99 = .ok (.iconst 2, 1) := by decide +kernel
theorem dX6_fail_100 : decode cX6_fail 100 = .ok (.iload_n 2, 1) := by decide +kernel
theorem dX6_fail_101 : decode cX6_fail 101 = .ok (.imul, 1) := by decide +kernel
theorem dX6_fail_102 : decode cX6_fail 102 = .ok (.iastore, 1) := by decide +kernel
theorem dX6_fail_103 : decode cX6_fail 103 = .ok (.aload_n 0, 1) := by decide +kernel
theorem dX6_fail_104 : decode cX6_fail 104 = .ok (.getfield 28, 3) := by decide +kernel
theorem dX6_fail_107 : decode cX6_fail 107 = .ok (.iload_n 1, 1) := by decide +kernel
theorem dX6_fail_108 : decode cX6_fail 108 = .ok (.iaload, 1) := by decide +kernel
theorem dX6_fail_109 : decode cX6_fail 109 = .ok (.bipush 12, 2) := by decide +kernel
theorem dX6_fail_111 : decode cX6_fail 111 = .ok (.if_icmp .ne 8, 3) := by decide +kernel
theorem dX6_fail_114 : decode cX6_fail 114 = .ok (.aload_n 0, 1) := by decide +kernel
theorem dX6_fail_115 : decode cX6_fail 115 = .ok (.iload_n 1, 1) := by decide +kernel
theorem dX6_fail_116 : decode cX6_fail 116 = .ok (.putfield 31, 3) := by decide +kernel
theorem dX6_fail_119 : decode cX6_fail 119 = .ok (.aload_n 0, 1) := by decide +kernel
theorem dX6_fail_120 : decode cX6_fail 120 = .ok (.iconst 0, 1) := by decide +kernel
theorem dX6_fail_121 : decode cX6_fail 121 = .ok (.putfield 93, 3) := by decide +kernel
theorem dX6_fail_124 : decode cX6_fail 124 = .ok (.aload_n 0, 1) := by decide +kernel
theorem dX6_fail_125 : decode cX6_fail 125 = .ok (.invokevirtual 99, 3) := by decide +kernel
theorem dX6_fail_128 : decode cX6_fail 128 = .ok (.return_, 1) := by decide +kernel
theorem dX6_endAttempt_0 : decode cX6_endAttempt 0 = .ok (.iconst 0, 1) := by decide +kernel
theorem dX6_endAttempt_1 : decode cX6_endAttempt 1 = .ok (.istore_n 1, 1) := by decide +kernel
theorem dX6_endAttempt_2 : decode cX6_endAttempt 2 = .ok (.iload_n 1, 1) := by decide +kernel
theorem dX6_endAttempt_3 : decode cX6_endAttempt 3 = .ok (.bipush 8, 2) := by decide +kernel
theorem dX6_endAttempt_5 : decode cX6_endAttempt 5 = .ok (.if_icmp .ge 16, 3) := by decide +kernel
theorem dX6_endAttempt_8 : decode cX6_endAttempt 8 = .ok (.aload_n 0, 1) := by decide +kernel
theorem dX6_endAttempt_9 : decode cX6_endAttempt 9 = .ok (.getfield 35, 3) := by decide +kernel
theorem dX6_endAttempt_12 : decode cX6_endAttempt 12 = .ok (.iload_n 1, 1) := by decide +kernel
theorem dX6_endAttempt_13 : decode cX6_endAttempt 13 = .ok (.iconst 0, 1) := by decide +kernel
theorem dX6_endAttempt_14 : decode cX6_endAttempt 14 = .ok (.iastore, 1) := by decide +kernel
theorem dX6_endAttempt_15 : decode cX6_endAttempt 15 = .ok (.iinc 1 1, 3) := by decide +kernel
theorem dX6_endAttempt_18 : decode cX6_endAttempt 18 = .ok (.goto (-16), 3) := by decide +kernel
theorem dX6_endAttempt_21 : decode cX6_endAttempt 21 = .ok (.aload_n 0, 1) := by decide +kernel
theorem dX6_endAttempt_22 : decode cX6_endAttempt 22 = .ok (.iconst 0, 1) := by decide +kernel
theorem dX6_endAttempt_23 : decode cX6_endAttempt 23 = .ok (.putfield 102, 3) := by decide +kernel
theorem dX6_endAttempt_26 : decode cX6_endAttempt 26 = .ok (.aload_n 0, 1) := by decide +kernel
theorem dX6_endAttempt_27 : decode cX6_endAttempt 27 = .ok (.iconst 0, 1) := by decide +kernel
theorem dX6_endAttempt_28 : decode cX6_endAttempt 28 = .ok (.putfield 96, 3) := by decide +kernel
theorem dX6_endAttempt_31 : decode cX6_endAttempt 31 = .ok (.aload_n 0, 1) := by decide +kernel
theorem dX6_endAttempt_32 : decode cX6_endAttempt 32 = .ok (.iconst (-1), 1) := by decide +kernel
theorem dX6_endAttempt_33 : decode cX6_endAttempt 33 = .ok (.putfield 105, 3) := by decide +kernel
theorem dX6_endAttempt_36 : decode cX6_endAttempt 36 = .ok (.aload_n 0, 1) := by decide +kernel
theorem dX6_endAttempt_37 : decode cX6_endAttempt 37 = .ok (.iconst 0, 1) := by decide +kernel
theorem dX6_endAttempt_38 : decode cX6_endAttempt 38 = .ok (.putfield 84, 3) := by decide +kernel
theorem dX6_endAttempt_41 : decode cX6_endAttempt 41 = .ok (.aload_n 0, 1) := by decide +kernel
theorem dX6_endAttempt_42 : decode cX6_endAttempt 42 = .ok (.iconst 0, 1) := by decide +kernel
theorem dX6_endAttempt_43 : decode cX6_endAttempt 43 = .ok (.putfield 108, 3) := by decide +kernel
theorem dX6_endAttempt_46 : decode cX6_endAttempt 46 = .ok (.return_, 1) := by decide +kernel
theorem dX6_pays_0 : decode cX6_pays 0 = .ok (.iload_n 1, 1) := by decide +kernel
theorem dX6_pays_1 : decode cX6_pays 1 = .ok (.aload_n 0, 1) := by decide +kernel
theorem dX6_pays_2 : decode cX6_pays 2 = .ok (.getfield 111, 3) := by decide +kernel
theorem dX6_pays_5 : decode cX6_pays 5 = .ok (.if_icmp .le 9, 3) := by decide +kernel
theorem dX6_pays_8 : decode cX6_pays 8 = .ok (.aload_n 0, 1) := by decide +kernel
theorem dX6_pays_9 : decode cX6_pays 9 = .ok (.invokevirtual 114, 3) := by decide +kernel
theorem dX6_pays_12 : decode cX6_pays 12 = .ok (.iconst 0, 1) := by decide +kernel
theorem dX6_pays_13 : decode cX6_pays 13 = .ok (.ireturn, 1) := by decide +kernel
theorem dX6_pays_14 : decode cX6_pays 14 = .ok (.aload_n 0, 1) := by decide +kernel
theorem dX6_pays_15 : decode cX6_pays 15 = .ok (.dup, 1) := by decide +kernel
theorem dX6_pays_16 : decode cX6_pays 16 = .ok (.getfield 111, 3) := by decide +kernel
theorem dX6_pays_19 : decode cX6_pays 19 = .ok (.iload_n 1, 1) := by decide +kernel
theorem dX6_pays_20 : decode cX6_pays 20 = .ok (.isub, 1) := by decide +kernel
theorem dX6_pays_21 : decode cX6_pays 21 = .ok (.putfield 111, 3) := by decide +kernel
theorem dX6_pays_24 : decode cX6_pays 24 = .ok (.aload_n 0, 1) := by decide +kernel
theorem dX6_pays_25 : decode cX6_pays 25 = .ok (.getfield 93, 3) := by decide +kernel
theorem dX6_pays_28 : decode cX6_pays 28 = .ok (.iconst 3, 1) := by decide +kernel
theorem dX6_pays_29 : decode cX6_pays 29 = .ok (.if_icmp .eq 11, 3) := by decide +kernel
theorem dX6_pays_32 : decode cX6_pays 32 = .ok (.aload_n 0, 1) := by decide +kernel
theorem dX6_pays_33 : decode cX6_pays 33 = .ok (.getfield 93, 3) := by decide +kernel
theorem dX6_pays_36 : decode cX6_pays 36 = .ok (.iconst 4, 1) := by decide +kernel
theorem dX6_pays_37 : decode cX6_pays 37 = .ok (.if_icmp .ne 13, 3) := by decide +kernel
theorem dX6_pays_40 : decode cX6_pays 40 = .ok (.aload_n 0, 1) := by decide +kernel
theorem dX6_pays_41 : decode cX6_pays 41 = .ok (.dup, 1) := by decide +kernel
theorem dX6_pays_42 : decode cX6_pays 42 = .ok (.getfield 96, 3) := by decide +kernel
theorem dX6_pays_45 : decode cX6_pays 45 = .ok (.iload_n 1, 1) := by decide +kernel
theorem dX6_pays_46 : decode cX6_pays 46 = .ok (.iadd, 1) := by decide +kernel
theorem dX6_pays_47 : decode cX6_pays 47 = .ok (.putfield 96, 3) := by decide +kernel
theorem dX6_pays_50 : decode cX6_pays 50 = .ok (.iconst 1, 1) := by decide +kernel
theorem dX6_pays_51 : decode cX6_pays 51 = .ok (.ireturn, 1) := by decide +kernel
theorem dX6_replayStep_0 : decode cX6_replayStep 0 = .ok (.aload_n 0, 1) := by decide +kernel
theorem dX6_replayStep_1 : decode cX6_replayStep 1 = .ok (.iconst 4, 1) := by decide +kernel
theorem dX6_replayStep_2 : decode cX6_replayStep 2 = .ok (.invokevirtual 117, 3) := by decide +kernel
theorem dX6_replayStep_5 : decode cX6_replayStep 5 = .ok (.ifCond .ne 4, 3) := by decide +kernel
theorem dX6_replayStep_8 : decode cX6_replayStep 8 = .ok (.return_, 1) := by decide +kernel
theorem dX6_replayStep_9 : decode cX6_replayStep 9 = .ok (.aload_n 0, 1) := by decide +kernel
theorem dX6_replayStep_10 : decode cX6_replayStep 10 = .ok (.getfield 120, 3) := by decide +kernel
theorem dX6_replayStep_13 : decode cX6_replayStep 13 = .ok (.aload_n 0, 1) := by decide +kernel
theorem dX6_replayStep_14 : decode cX6_replayStep 14 = .ok (.getfield 16, 3) := by decide +kernel
theorem dX6_replayStep_17 : decode cX6_replayStep 17 = .ok (.iconst 2, 1) := by decide +kernel
theorem dX6_replayStep_18 : decode cX6_replayStep 18 = .ok (.iaload, 1) := by decide +kernel
theorem dX6_replayStep_19 : decode cX6_replayStep 19 = .ok (.if_icmp .ge 50, 3) := by decide +kernel
theorem dX6_replayStep_22 : decode cX6_replayStep 22 = .ok (.aload_n 0, 1) := by decide +kernel
theorem dX6_replayStep_23 : decode cX6_replayStep 23 = .ok (.aload_n 0, 1) := by decide +kernel
theorem dX6_replayStep_24 : decode cX6_replayStep 24 = .ok (.getfield 16, 3) := by decide +kernel
theorem dX6_replayStep_27 : decode cX6_replayStep 27 = .ok (.bipush 84, 2) := by decide +kernel
theorem dX6_replayStep_29 : decode cX6_replayStep 29 = .ok (.iconst 2, 1) := by decide +kernel
theorem dX6_replayStep_30 : decode cX6_replayStep 30 = .ok (.aload_n 0, 1) := by decide +kernel
theorem dX6_replayStep_31 : decode cX6_replayStep 31 = .ok (.getfield 120, 3) := by decide +kernel
theorem dX6_replayStep_34 : decode cX6_replayStep 34 = .ok (.imul, 1) := by decide +kernel
theorem dX6_replayStep_35 : decode cX6_replayStep 35 = .ok (.iadd, 1) := by decide +kernel
theorem dX6_replayStep_36 : decode cX6_replayStep 36 = .ok (.iaload, 1) := by decide +kernel
theorem dX6_replayStep_37 : decode cX6_replayStep 37 = .ok (.aload_n 0, 1) := by decide +kernel
theorem dX6_replayStep_38 : decode cX6_replayStep 38 = .ok (.getfield 16, 3) := by decide +kernel
theorem dX6_replayStep_41 : decode cX6_replayStep 41 = .ok (.bipush 84, 2) := by decide +kernel
theorem dX6_replayStep_43 : decode cX6_replayStep 43 = .ok (.iconst 2, 1) := by decide +kernel
theorem dX6_replayStep_44 : decode cX6_replayStep 44 = .ok (.aload_n 0, 1) := by decide +kernel
theorem dX6_replayStep_45 : decode cX6_replayStep 45 = .ok (.getfield 120, 3) := by decide +kernel
theorem dX6_replayStep_48 : decode cX6_replayStep 48 = .ok (.imul, 1) := by decide +kernel
theorem dX6_replayStep_49 : decode cX6_replayStep 49 = .ok (.iadd, 1) := by decide +kernel
theorem dX6_replayStep_50 : decode cX6_replayStep 50 = .ok (.iconst 1, 1) := by decide +kernel
theorem dX6_replayStep_51 : decode cX6_replayStep 51 = .ok (.iadd, 1) := by decide +kernel
theorem dX6_replayStep_52 : decode cX6_replayStep 52 = .ok (.iaload, 1) := by decide +kernel
theorem dX6_replayStep_53 : decode cX6_replayStep 53 = .ok (.invokevirtual 123, 3) := by decide +kernel
theorem dX6_replayStep_56 : decode cX6_replayStep 56 = .ok (.aload_n 0, 1) := by decide +kernel
theorem dX6_replayStep_57 : decode cX6_replayStep 57 = .ok (.dup, 1) := by decide +kernel
theorem dX6_replayStep_58 : decode cX6_replayStep 58 = .ok (.getfield 120, 3) := by decide +kernel
theorem dX6_replayStep_61 : decode cX6_replayStep 61 = .ok (.iconst 1, 1) := by decide +kernel
theorem dX6_replayStep_62 : decode cX6_replayStep 62 = .ok (.iadd, 1) := by decide +kernel
theorem dX6_replayStep_63 : decode cX6_replayStep 63 = .ok (.putfield 120, 3) := by decide +kernel
theorem dX6_replayStep_66 : decode cX6_replayStep 66 = .ok (.goto 19, 3) := by decide +kernel
theorem dX6_replayStep_69 : decode cX6_replayStep 69 = .ok (.aload_n 0, 1) := by decide +kernel
theorem dX6_replayStep_70 : decode cX6_replayStep 70 = .ok (.iconst 2, 1) := by decide +kernel
theorem dX6_replayStep_71 : decode cX6_replayStep 71 = .ok (.iconst 0, 1) := by decide +kernel
theorem dX6_replayStep_72 : decode cX6_replayStep 72 = .ok (.invokevirtual 123, 3) := by decide +kernel
theorem dX6_replayStep_75 : decode cX6_replayStep 75 = .ok (.aload_n 0, 1) := by decide +kernel
theorem dX6_replayStep_76 : decode cX6_replayStep 76 = .ok (.iconst 2, 1) := by decide +kernel
theorem dX6_replayStep_77 : decode cX6_replayStep 77 = .ok (.putfield 93, 3) := by decide +kernel
theorem dX6_replayStep_80 : decode cX6_replayStep 80 = .ok (.aload_n 0, 1) := by decide +kernel
theorem dX6_replayStep_81 : decode cX6_replayStep 81 = .ok (.iconst 0, 1) := by decide +kernel
theorem dX6_replayStep_82 : decode cX6_replayStep 82 = .ok (.putfield 127, 3) := by decide +kernel
theorem dX6_replayStep_85 : decode cX6_replayStep 85 = .ok (.return_, 1) := by decide +kernel
theorem dX6_airStep_0 : decode cX6_airStep 0 = .ok (.aload_n 0, 1) := by decide +kernel
theorem dX6_airStep_1 : decode cX6_airStep 1 = .ok (.aload_n 0, 1) := by decide +kernel
theorem dX6_airStep_2 : decode cX6_airStep 2 = .ok (.getfield 127, 3) := by decide +kernel
theorem dX6_airStep_5 : decode cX6_airStep 5 = .ok (.ifCond .eq 7, 3) := by decide +kernel
theorem dX6_airStep_8 : decode cX6_airStep 8 = .ok (.iconst 4, 1) := by decide +kernel
theorem dX6_airStep_9 : decode cX6_airStep 9 = .ok (.goto 5, 3) := by decide +kernel
theorem dX6_airStep_12 : decode cX6_airStep 12 = .ok (.bipush 20, 2) := by decide +kernel
theorem dX6_airStep_14 : decode cX6_airStep 14 = .ok (.invokevirtual 117, 3) := by decide +kernel
theorem dX6_airStep_17 : decode cX6_airStep 17 = .ok (.ifCond .ne 4, 3) := by decide +kernel
theorem dX6_airStep_20 : decode cX6_airStep 20 = .ok (.return_, 1) := by decide +kernel
theorem dX6_airStep_21 : decode cX6_airStep 21 = .ok (.aload_n 0, 1) := by decide +kernel
theorem dX6_airStep_22 : decode cX6_airStep 22 = .ok (.getfield 127, 3) := by decide +kernel
theorem dX6_airStep_25 : decode cX6_airStep 25 = .ok (.ifCond .eq 22, 3) := by decide +kernel
theorem dX6_airStep_28 : decode cX6_airStep 28 = .ok (.aload_n 0, 1) := by decide +kernel
theorem dX6_airStep_29 : decode cX6_airStep 29 = .ok (.iconst 0, 1) := by decide +kernel
theorem dX6_airStep_30 : decode cX6_airStep 30 = .ok (.putfield 127, 3) := by decide +kernel
theorem dX6_airStep_33 : decode cX6_airStep 33 = .ok (.aload_n 0, 1) := by decide +kernel
theorem dX6_airStep_34 : decode cX6_airStep 34 = .ok (.iconst 4, 1) := by decide +kernel
theorem dX6_airStep_35 : decode cX6_airStep 35 = .ok (.aload_n 0, 1) := by decide +kernel
theorem dX6_airStep_36 : decode cX6_airStep 36 = .ok (.getfield 16, 3) := by decide +kernel
theorem dX6_airStep_39 : decode cX6_airStep 39 = .ok (.iconst 4, 1) := by decide +kernel
theorem dX6_airStep_40 : decode cX6_airStep 40 = .ok (.iaload, 1) := by decide +kernel
theorem dX6_airStep_41 : decode cX6_airStep 41 = .ok (.iconst 1, 1) := by decide +kernel
theorem dX6_airStep_42 : decode cX6_airStep 42 = .ok (.iadd, 1) := by decide +kernel
theorem dX6_airStep_43 : decode cX6_airStep 43 = .ok (.invokevirtual 123, 3) := by decide +kernel
theorem dX6_airStep_46 : decode cX6_airStep 46 = .ok (.return_, 1) := by decide +kernel
theorem dX6_airStep_47 : decode cX6_airStep 47 = .ok (.aload_n 0, 1) := by decide +kernel
theorem dX6_airStep_48 : decode cX6_airStep 48 = .ok (.iconst 1, 1) := by decide +kernel
theorem dX6_airStep_49 : decode cX6_airStep 49 = .ok (.putfield 127, 3) := by decide +kernel
theorem dX6_airStep_52 : decode cX6_airStep 52 = .ok (.aload_n 0, 1) := by decide +kernel
theorem dX6_airStep_53 : decode cX6_airStep 53 = .ok (.getfield 16, 3) := by decide +kernel
theorem dX6_airStep_56 : decode cX6_airStep 56 = .ok (.iconst 4, 1) := by decide +kernel
theorem dX6_airStep_57 : decode cX6_airStep 57 = .ok (.iaload, 1) := by decide +kernel
theorem dX6_airStep_58 : decode cX6_airStep 58 = .ok (.istore_n 1, 1) := by decide +kernel
theorem dX6_airStep_59 : decode cX6_airStep 59 = .ok (.aload_n 0, 1) := by decide +kernel
theorem dX6_airStep_60 : decode cX6_airStep 60 = .ok (.getfield 16, 3) := by decide +kernel
theorem dX6_airStep_63 : decode cX6_airStep 63 = .ok (.bipush 68, 2) := by decide +kernel
theorem dX6_airStep_65 : decode cX6_airStep 65 = .ok (.iload_n 1, 1) := by decide +kernel
theorem dX6_airStep_66 : decode cX6_airStep 66 = .ok (.bipush 16, 2) := by decide +kernel
theorem dX6_airStep_68 : decode cX6_airStep 68 = .ok (.irem, 1) := by decide +kernel
theorem dX6_airStep_69 : decode cX6_airStep 69 = .ok (.iadd, 1) := by decide +kernel
theorem dX6_airStep_70 : decode cX6_airStep 70 = .ok (.iaload, 1) := by decide +kernel
theorem dX6_airStep_71 : decode cX6_airStep 71 = .ok (.istore_n 2, 1) := by decide +kernel
theorem dX6_airStep_72 : decode cX6_airStep 72 = .ok (.aload_n 0, 1) := by decide +kernel
theorem dX6_airStep_73 : decode cX6_airStep 73 = .ok (.getfield 44, 3) := by decide +kernel
theorem dX6_airStep_76 : decode cX6_airStep 76 = .ok (.aload_n 0, 1) := by decide +kernel
theorem dX6_airStep_77 : decode cX6_airStep 77 = .ok (.getfield 130, 3) := by decide +kernel
theorem dX6_airStep_80 : decode cX6_airStep 80 = .ok (.bipush 64, 2) := by decide +kernel
theorem dX6_airStep_82 : decode cX6_airStep 82 = .ok (.irem, 1) := by decide +kernel
theorem dX6_airStep_83 : decode cX6_airStep 83 = .ok (.iload_n 1, 1) := by decide +kernel
theorem dX6_airStep_84 : decode cX6_airStep 84 = .ok (.iastore, 1) := by decide +kernel
theorem dX6_airStep_85 : decode cX6_airStep 85 = .ok (.aload_n 0, 1) := by decide +kernel
theorem dX6_airStep_86 : decode cX6_airStep 86 = .ok (.getfield 47, 3) := by decide +kernel
theorem dX6_airStep_89 : decode cX6_airStep 89 = .ok (.aload_n 0, 1) := by decide +kernel
theorem dX6_airStep_90 : decode cX6_airStep 90 = .ok (.getfield 130, 3) := by decide +kernel
theorem dX6_airStep_93 : decode cX6_airStep 93 = .ok (.bipush 64, 2) := by decide +kernel
theorem dX6_airStep_95 : decode cX6_airStep 95 = .ok (.irem, 1) := by decide +kernel
theorem dX6_airStep_96 : decode cX6_airStep 96 = .ok (.iload_n 2, 1) := by decide +kernel
theorem dX6_airStep_97 : decode cX6_airStep 97 = .ok (.iastore, 1) := by decide +kernel
theorem dX6_airStep_98 : decode cX6_airStep 98 = .ok (.aload_n 0, 1) := by decide +kernel
theorem dX6_airStep_99 : decode cX6_airStep 99 = .ok (.dup, 1) := by decide +kernel
theorem dX6_airStep_100 : decode cX6_airStep 100 = .ok (.getfield 130, 3) := by decide +kernel
theorem dX6_airStep_103 : decode cX6_airStep 103 = .ok (.iconst 1, 1) := by decide +kernel
theorem dX6_airStep_104 : decode cX6_airStep 104 = .ok (.iadd, 1) := by decide +kernel
theorem dX6_airStep_105 : decode cX6_airStep 105 = .ok (.putfield 130, 3) := by decide +kernel
theorem dX6_airStep_108 : decode cX6_airStep 108 = .ok (.aload_n 0, 1) := by decide +kernel
theorem dX6_airStep_109 : decode cX6_airStep 109 = .ok (.getfield 50, 3) := by decide +kernel
theorem dX6_airStep_112 : decode cX6_airStep 112 = .ok (.iload_n 1, 1) := by decide +kernel
theorem dX6_airStep_113 : decode cX6_airStep 113 = .ok (.bipush 64, 2) := by decide +kernel
theorem dX6_airStep_115 : decode cX6_airStep 115 = .ok (.irem, 1) := by decide +kernel
theorem dX6_airStep_116 : decode cX6_airStep 116 = .ok (.iaload, 1) := by decide +kernel
theorem dX6_airStep_117 : decode cX6_airStep 117 = .ok (.iload_n 1, 1) := by decide +kernel
theorem dX6_airStep_118 : decode cX6_airStep 118 = .ok (.if_icmp .eq 23, 3) := by decide +kernel
theorem dX6_airStep_121 : decode cX6_airStep 121 = .ok (.aload_n 0, 1) := by decide +kernel
theorem dX6_airStep_122 : decode cX6_airStep 122 = .ok (.getfield 50, 3) := by decide +kernel
theorem dX6_airStep_125 : decode cX6_airStep 125 = .ok (.iload_n 1, 1) := by decide +kernel
theorem dX6_airStep_126 : decode cX6_airStep 126 = .ok (.bipush 64, 2) := by decide +kernel
theorem dX6_airStep_128 : decode cX6_airStep 128 = .ok (.irem, 1) := by decide +kernel
theorem dX6_airStep_129 : decode cX6_airStep 129 = .ok (.iload_n 1, 1) := by decide +kernel
theorem dX6_airStep_130 : decode cX6_airStep 130 = .ok (.iastore, 1) := by decide +kernel
theorem dX6_airStep_131 : decode cX6_airStep 131 = .ok (.aload_n 0, 1) := by decide +kernel
theorem dX6_airStep_132 : decode cX6_airStep 132 = .ok (.getfield 53, 3) := by decide +kernel
theorem dX6_airStep_135 : decode cX6_airStep 135 = .ok (.iload_n 1, 1) := by decide +kernel
theorem dX6_airStep_136 : decode cX6_airStep 136 = .ok (.bipush 64, 2) := by decide +kernel
theorem dX6_airStep_138 : decode cX6_airStep 138 = .ok (.irem, 1) := by decide +kernel
theorem dX6_airStep_139 : decode cX6_airStep 139 = .ok (.iload_n 2, 1) := by decide +kernel
theorem dX6_airStep_140 : decode cX6_airStep 140 = .ok (.iastore, 1) := by decide +kernel
theorem dX6_airStep_141 : decode cX6_airStep 141 = .ok (.return_, 1) := by decide +kernel
theorem dX6_cost_0 : decode cX6_cost 0 = .ok (.iload_n 0, 1) := by decide +kernel
theorem dX6_cost_1 : decode cX6_cost 1 = .ok (.tableswitch 72 4 15 #[63, 72, 72, 72, 65, 65, 65, 65, 67, 67, 69, 67], 63) := by decide +kernel
theorem dX6_cost_64 : decode cX6_cost 64 = .ok (.iconst 4, 1) := by decide +kernel
theorem dX6_cost_65 : decode cX6_cost 65 = .ok (.ireturn, 1) := by decide +kernel
theorem dX6_cost_66 : decode cX6_cost 66 = .ok (.iconst 2, 1) := by decide +kernel
theorem dX6_cost_67 : decode cX6_cost 67 = .ok (.ireturn, 1) := by decide +kernel
theorem dX6_cost_68 : decode cX6_cost 68 = .ok (.iconst 3, 1) := by decide +kernel
theorem dX6_cost_69 : decode cX6_cost 69 = .ok (.ireturn, 1) := by decide +kernel
theorem dX6_cost_70 : decode cX6_cost 70 = .ok (.bipush 10, 2) := by decide +kernel
theorem dX6_cost_72 : decode cX6_cost 72 = .ok (.ireturn, 1) := by decide +kernel
theorem dX6_cost_73 : decode cX6_cost 73 = .ok (.iconst 1, 1) := by decide +kernel
theorem dX6_cost_74 : decode cX6_cost 74 = .ok (.ireturn, 1) := by decide +kernel
theorem dX6_push_0 : decode cX6_push 0 = .ok (.bipush 56, 2) := by decide +kernel
theorem dX6_push_2 : decode cX6_push 2 = .ok (.bipush 6, 2) := by decide +kernel
theorem dX6_push_4 : decode cX6_push 4 = .ok (.iload_n 1, 1) := by decide +kernel
theorem dX6_push_5 : decode cX6_push 5 = .ok (.imul, 1) := by decide +kernel
theorem dX6_push_6 : decode cX6_push 6 = .ok (.iadd, 1) := by decide +kernel
theorem dX6_push_7 : decode cX6_push 7 = .ok (.istore_n 3, 1) := by decide +kernel
theorem dX6_push_8 : decode cX6_push 8 = .ok (.aload_n 0, 1) := by decide +kernel
theorem dX6_push_9 : decode cX6_push 9 = .ok (.iload_n 3, 1) := by decide +kernel
theorem dX6_push_10 : decode cX6_push 10 = .ok (.iconst 1, 1) := by decide +kernel
theorem dX6_push_11 : decode cX6_push 11 = .ok (.iadd, 1) := by decide +kernel
theorem dX6_push_12 : decode cX6_push 12 = .ok (.invokevirtual 133, 3) := by decide +kernel
theorem dX6_push_15 : decode cX6_push 15 = .ok (.istore 4, 2) := by decide +kernel
theorem dX6_push_17 : decode cX6_push 17 = .ok (.iload_n 3, 1) := by decide +kernel
theorem dX6_push_18 : decode cX6_push 18 = .ok (.iconst 2, 1) := by decide +kernel
theorem dX6_push_19 : decode cX6_push 19 = .ok (.iadd, 1) := by decide +kernel
theorem dX6_push_20 : decode cX6_push 20 = .ok (.aload_n 0, 1) := by decide +kernel
theorem dX6_push_21 : decode cX6_push 21 = .ok (.iload_n 3, 1) := by decide +kernel
theorem dX6_push_22 : decode cX6_push 22 = .ok (.invokevirtual 133, 3) := by decide +kernel
theorem dX6_push_25 : decode cX6_push 25 = .ok (.iload 4, 2) := by decide +kernel
theorem dX6_push_27 : decode cX6_push 27 = .ok (.iadd, 1) := by decide +kernel
theorem dX6_push_28 : decode cX6_push 28 = .ok (.iconst 4, 1) := by decide +kernel
theorem dX6_push_29 : decode cX6_push 29 = .ok (.irem, 1) := by decide +kernel
theorem dX6_push_30 : decode cX6_push 30 = .ok (.iadd, 1) := by decide +kernel
theorem dX6_push_31 : decode cX6_push 31 = .ok (.istore 5, 2) := by decide +kernel
theorem dX6_push_33 : decode cX6_push 33 = .ok (.aload_n 0, 1) := by decide +kernel
theorem dX6_push_34 : decode cX6_push 34 = .ok (.getfield 35, 3) := by decide +kernel
theorem dX6_push_37 : decode cX6_push 37 = .ok (.bipush 7, 2) := by decide +kernel
theorem dX6_push_39 : decode cX6_push 39 = .ok (.iconst 0, 1) := by decide +kernel
theorem dX6_push_40 : decode cX6_push 40 = .ok (.iastore, 1) := by decide +kernel
theorem dX6_push_41 : decode cX6_push 41 = .ok (.iload 4, 2) := by decide +kernel
theorem dX6_push_43 : decode cX6_push 43 = .ok (.iconst 4, 1) := by decide +kernel
theorem dX6_push_44 : decode cX6_push 44 = .ok (.if_icmp .eq 15, 3) := by decide +kernel
theorem dX6_push_47 : decode cX6_push 47 = .ok (.aload_n 0, 1) := by decide +kernel
theorem dX6_push_48 : decode cX6_push 48 = .ok (.iload 5, 2) := by decide +kernel
theorem dX6_push_50 : decode cX6_push 50 = .ok (.iload_n 3, 1) := by decide +kernel
theorem dX6_push_51 : decode cX6_push 51 = .ok (.iconst 1, 1) := by decide +kernel
theorem dX6_push_52 : decode cX6_push 52 = .ok (.iadd, 1) := by decide +kernel
theorem dX6_push_53 : decode cX6_push 53 = .ok (.invokevirtual 136, 3) := by decide +kernel
theorem dX6_push_56 : decode cX6_push 56 = .ok (.ifCond .ne 4, 3) := by decide +kernel
theorem dX6_push_59 : decode cX6_push 59 = .ok (.return_, 1) := by decide +kernel
theorem dX6_push_60 : decode cX6_push 60 = .ok (.aload_n 0, 1) := by decide +kernel
theorem dX6_push_61 : decode cX6_push 61 = .ok (.iload 5, 2) := by decide +kernel
theorem dX6_push_63 : decode cX6_push 63 = .ok (.iload_n 2, 1) := by decide +kernel
theorem dX6_push_64 : decode cX6_push 64 = .ok (.invokevirtual 139, 3) := by decide +kernel
theorem dX6_push_67 : decode cX6_push 67 = .ok (.aload_n 0, 1) := by decide +kernel
theorem dX6_push_68 : decode cX6_push 68 = .ok (.iload_n 3, 1) := by decide +kernel
theorem dX6_push_69 : decode cX6_push 69 = .ok (.iconst 1, 1) := by decide +kernel
theorem dX6_push_70 : decode cX6_push 70 = .ok (.iadd, 1) := by decide +kernel
theorem dX6_push_71 : decode cX6_push 71 = .ok (.iload 4, 2) := by decide +kernel
theorem dX6_push_73 : decode cX6_push 73 = .ok (.iconst 1, 1) := by decide +kernel
theorem dX6_push_74 : decode cX6_push 74 = .ok (.iadd, 1) := by decide +kernel
theorem dX6_push_75 : decode cX6_push 75 = .ok (.invokevirtual 139, 3) := by decide +kernel
theorem dX6_push_78 : decode cX6_push 78 = .ok (.aload_n 0, 1) := by decide +kernel
theorem dX6_push_79 : decode cX6_push 79 = .ok (.getfield 35, 3) := by decide +kernel
theorem dX6_push_82 : decode cX6_push 82 = .ok (.bipush 7, 2) := by decide +kernel
theorem dX6_push_84 : decode cX6_push 84 = .ok (.iconst 1, 1) := by decide +kernel
theorem dX6_push_85 : decode cX6_push 85 = .ok (.iastore, 1) := by decide +kernel
theorem dX6_push_86 : decode cX6_push 86 = .ok (.return_, 1) := by decide +kernel
theorem dX6_pop_0 : decode cX6_pop 0 = .ok (.bipush 56, 2) := by decide +kernel
theorem dX6_pop_2 : decode cX6_pop 2 = .ok (.bipush 6, 2) := by decide +kernel
theorem dX6_pop_4 : decode cX6_pop 4 = .ok (.iload_n 1, 1) := by decide +kernel
theorem dX6_pop_5 : decode cX6_pop 5 = .ok (.imul, 1) := by decide +kernel
theorem dX6_pop_6 : decode cX6_pop 6 = .ok (.iadd, 1) := by decide +kernel
theorem dX6_pop_7 : decode cX6_pop 7 = .ok (.istore_n 3, 1) := by decide +kernel
theorem dX6_pop_8 : decode cX6_pop 8 = .ok (.aload_n 0, 1) := by decide +kernel
theorem dX6_pop_9 : decode cX6_pop 9 = .ok (.iload_n 3, 1) := by decide +kernel
theorem dX6_pop_10 : decode cX6_pop 10 = .ok (.invokevirtual 133, 3) := by decide +kernel
theorem dX6_pop_13 : decode cX6_pop 13 = .ok (.istore 4, 2) := by decide +kernel
theorem dX6_pop_15 : decode cX6_pop 15 = .ok (.aload_n 0, 1) := by decide +kernel
theorem dX6_pop_16 : decode cX6_pop 16 = .ok (.iload_n 3, 1) := by decide +kernel
theorem dX6_pop_17 : decode cX6_pop 17 = .ok (.iconst 1, 1) := by decide +kernel
theorem dX6_pop_18 : decode cX6_pop 18 = .ok (.iadd, 1) := by decide +kernel
theorem dX6_pop_19 : decode cX6_pop 19 = .ok (.invokevirtual 133, 3) := by decide +kernel
theorem dX6_pop_22 : decode cX6_pop 22 = .ok (.istore 5, 2) := by decide +kernel
theorem dX6_pop_24 : decode cX6_pop 24 = .ok (.iload 5, 2) := by decide +kernel
theorem dX6_pop_26 : decode cX6_pop 26 = .ok (.ifCond .ne 19, 3) := by decide +kernel
theorem dX6_pop_29 : decode cX6_pop 29 = .ok (.aload_n 0, 1) := by decide +kernel
theorem dX6_pop_30 : decode cX6_pop 30 = .ok (.getfield 35, 3) := by decide +kernel
theorem dX6_pop_33 : decode cX6_pop 33 = .ok (.iload_n 2, 1) := by decide +kernel
theorem dX6_pop_34 : decode cX6_pop 34 = .ok (.iconst 0, 1) := by decide +kernel
theorem dX6_pop_35 : decode cX6_pop 35 = .ok (.iastore, 1) := by decide +kernel
theorem dX6_pop_36 : decode cX6_pop 36 = .ok (.aload_n 0, 1) := by decide +kernel
theorem dX6_pop_37 : decode cX6_pop 37 = .ok (.getfield 35, 3) := by decide +kernel
theorem dX6_pop_40 : decode cX6_pop 40 = .ok (.bipush 7, 2) := by decide +kernel
theorem dX6_pop_42 : decode cX6_pop 42 = .ok (.iconst 0, 1) := by decide +kernel
theorem dX6_pop_43 : decode cX6_pop 43 = .ok (.iastore, 1) := by decide +kernel
theorem dX6_pop_44 : decode cX6_pop 44 = .ok (.return_, 1) := by decide +kernel
theorem dX6_pop_45 : decode cX6_pop 45 = .ok (.aload_n 0, 1) := by decide +kernel
theorem dX6_pop_46 : decode cX6_pop 46 = .ok (.iload_n 3, 1) := by decide +kernel
theorem dX6_pop_47 : decode cX6_pop 47 = .ok (.iload_n 3, 1) := by decide +kernel
theorem dX6_pop_48 : decode cX6_pop 48 = .ok (.iconst 1, 1) := by decide +kernel
theorem dX6_pop_49 : decode cX6_pop 49 = .ok (.iadd, 1) := by decide +kernel
theorem dX6_pop_50 : decode cX6_pop 50 = .ok (.invokevirtual 136, 3) := by decide +kernel
theorem dX6_pop_53 : decode cX6_pop 53 = .ok (.ifCond .ne 12, 3) := by decide +kernel
theorem dX6_pop_56 : decode cX6_pop 56 = .ok (.aload_n 0, 1) := by decide +kernel
theorem dX6_pop_57 : decode cX6_pop 57 = .ok (.getfield 35, 3) := by decide +kernel
theorem dX6_pop_60 : decode cX6_pop 60 = .ok (.bipush 7, 2) := by decide +kernel
theorem dX6_pop_62 : decode cX6_pop 62 = .ok (.iconst 0, 1) := by decide +kernel
theorem dX6_pop_63 : decode cX6_pop 63 = .ok (.iastore, 1) := by decide +kernel
theorem dX6_pop_64 : decode cX6_pop 64 = .ok (.return_, 1) := by decide +kernel
theorem dX6_pop_65 : decode cX6_pop 65 = .ok (.aload_n 0, 1) := by decide +kernel
theorem dX6_pop_66 : decode cX6_pop 66 = .ok (.getfield 35, 3) := by decide +kernel
theorem dX6_pop_69 : decode cX6_pop 69 = .ok (.iload_n 2, 1) := by decide +kernel
theorem dX6_pop_70 : decode cX6_pop 70 = .ok (.aload_n 0, 1) := by decide +kernel
theorem dX6_pop_71 : decode cX6_pop 71 = .ok (.iload_n 3, 1) := by decide +kernel
theorem dX6_pop_72 : decode cX6_pop 72 = .ok (.iconst 2, 1) := by decide +kernel
theorem dX6_pop_73 : decode cX6_pop 73 = .ok (.iadd, 1) := by decide +kernel
theorem dX6_pop_74 : decode cX6_pop 74 = .ok (.iload 4, 2) := by decide +kernel
theorem dX6_pop_76 : decode cX6_pop 76 = .ok (.iadd, 1) := by decide +kernel
theorem dX6_pop_77 : decode cX6_pop 77 = .ok (.invokevirtual 133, 3) := by decide +kernel
theorem dX6_pop_80 : decode cX6_pop 80 = .ok (.iastore, 1) := by decide +kernel
theorem dX6_pop_81 : decode cX6_pop 81 = .ok (.aload_n 0, 1) := by decide +kernel
theorem dX6_pop_82 : decode cX6_pop 82 = .ok (.iload_n 3, 1) := by decide +kernel
theorem dX6_pop_83 : decode cX6_pop 83 = .ok (.iload 4, 2) := by decide +kernel
theorem dX6_pop_85 : decode cX6_pop 85 = .ok (.iconst 1, 1) := by decide +kernel
theorem dX6_pop_86 : decode cX6_pop 86 = .ok (.iadd, 1) := by decide +kernel
theorem dX6_pop_87 : decode cX6_pop 87 = .ok (.iconst 4, 1) := by decide +kernel
theorem dX6_pop_88 : decode cX6_pop 88 = .ok (.irem, 1) := by decide +kernel
theorem dX6_pop_89 : decode cX6_pop 89 = .ok (.invokevirtual 139, 3) := by decide +kernel
theorem dX6_pop_92 : decode cX6_pop 92 = .ok (.aload_n 0, 1) := by decide +kernel
theorem dX6_pop_93 : decode cX6_pop 93 = .ok (.iload_n 3, 1) := by decide +kernel
theorem dX6_pop_94 : decode cX6_pop 94 = .ok (.iconst 1, 1) := by decide +kernel
theorem dX6_pop_95 : decode cX6_pop 95 = .ok (.iadd, 1) := by decide +kernel
theorem dX6_pop_96 : decode cX6_pop 96 = .ok (.iload 5, 2) := by decide +kernel
theorem dX6_pop_98 : decode cX6_pop 98 = .ok (.iconst 1, 1) := by decide +kernel
theorem dX6_pop_99 : decode cX6_pop 99 = .ok (.isub, 1) := by decide +kernel
theorem dX6_pop_100 : decode cX6_pop 100 = .ok (.invokevirtual 139, 3) := by decide +kernel
theorem dX6_pop_103 : decode cX6_pop 103 = .ok (.aload_n 0, 1) := by decide +kernel
theorem dX6_pop_104 : decode cX6_pop 104 = .ok (.getfield 35, 3) := by decide +kernel
theorem dX6_pop_107 : decode cX6_pop 107 = .ok (.bipush 7, 2) := by decide +kernel
theorem dX6_pop_109 : decode cX6_pop 109 = .ok (.iconst 1, 1) := by decide +kernel
theorem dX6_pop_110 : decode cX6_pop 110 = .ok (.iastore, 1) := by decide +kernel
theorem dX6_pop_111 : decode cX6_pop 111 = .ok (.return_, 1) := by decide +kernel
theorem dX6_sendFrame_0 : decode cX6_sendFrame 0 = .ok (.aload_n 0, 1) := by decide +kernel
theorem dX6_sendFrame_1 : decode cX6_sendFrame 1 = .ok (.iconst 3, 1) := by decide +kernel
theorem dX6_sendFrame_2 : decode cX6_sendFrame 2 = .ok (.invokevirtual 133, 3) := by decide +kernel
theorem dX6_sendFrame_5 : decode cX6_sendFrame 5 = .ok (.istore_n 2, 1) := by decide +kernel
theorem dX6_sendFrame_6 : decode cX6_sendFrame 6 = .ok (.aload_n 0, 1) := by decide +kernel
theorem dX6_sendFrame_7 : decode cX6_sendFrame 7 = .ok (.getfield 35, 3) := by decide +kernel
theorem dX6_sendFrame_10 : decode cX6_sendFrame 10 = .ok (.bipush 7, 2) := by decide +kernel
theorem dX6_sendFrame_12 : decode cX6_sendFrame 12 = .ok (.iconst 0, 1) := by decide +kernel
theorem dX6_sendFrame_13 : decode cX6_sendFrame 13 = .ok (.iastore, 1) := by decide +kernel
theorem dX6_sendFrame_14 : decode cX6_sendFrame 14 = .ok (.iload_n 2, 1) := by decide +kernel
theorem dX6_sendFrame_15 : decode cX6_sendFrame 15 = .ok (.aload_n 0, 1) := by decide +kernel
theorem dX6_sendFrame_16 : decode cX6_sendFrame 16 = .ok (.getfield 16, 3) := by decide +kernel
theorem dX6_sendFrame_19 : decode cX6_sendFrame 19 = .ok (.iconst 4, 1) := by decide +kernel
theorem dX6_sendFrame_20 : decode cX6_sendFrame 20 = .ok (.iaload, 1) := by decide +kernel
theorem dX6_sendFrame_21 : decode cX6_sendFrame 21 = .ok (.isub, 1) := by decide +kernel
theorem dX6_sendFrame_22 : decode cX6_sendFrame 22 = .ok (.bipush 16, 2) := by decide +kernel
theorem dX6_sendFrame_24 : decode cX6_sendFrame 24 = .ok (.if_icmp .eq 18, 3) := by decide +kernel
theorem dX6_sendFrame_27 : decode cX6_sendFrame 27 = .ok (.aload_n 0, 1) := by decide +kernel
theorem dX6_sendFrame_28 : decode cX6_sendFrame 28 = .ok (.bipush 68, 2) := by decide +kernel
theorem dX6_sendFrame_30 : decode cX6_sendFrame 30 = .ok (.iload_n 2, 1) := by decide +kernel
theorem dX6_sendFrame_31 : decode cX6_sendFrame 31 = .ok (.bipush 16, 2) := by decide +kernel
theorem dX6_sendFrame_33 : decode cX6_sendFrame 33 = .ok (.irem, 1) := by decide +kernel
theorem dX6_sendFrame_34 : decode cX6_sendFrame 34 = .ok (.iadd, 1) := by decide +kernel
theorem dX6_sendFrame_35 : decode cX6_sendFrame 35 = .ok (.iconst 3, 1) := by decide +kernel
theorem dX6_sendFrame_36 : decode cX6_sendFrame 36 = .ok (.invokevirtual 136, 3) := by decide +kernel
theorem dX6_sendFrame_39 : decode cX6_sendFrame 39 = .ok (.ifCond .ne 4, 3) := by decide +kernel
theorem dX6_sendFrame_42 : decode cX6_sendFrame 42 = .ok (.return_, 1) := by decide +kernel
theorem dX6_sendFrame_43 : decode cX6_sendFrame 43 = .ok (.aload_n 0, 1) := by decide +kernel
theorem dX6_sendFrame_44 : decode cX6_sendFrame 44 = .ok (.bipush 68, 2) := by decide +kernel
theorem dX6_sendFrame_46 : decode cX6_sendFrame 46 = .ok (.iload_n 2, 1) := by decide +kernel
theorem dX6_sendFrame_47 : decode cX6_sendFrame 47 = .ok (.bipush 16, 2) := by decide +kernel
theorem dX6_sendFrame_49 : decode cX6_sendFrame 49 = .ok (.irem, 1) := by decide +kernel
theorem dX6_sendFrame_50 : decode cX6_sendFrame 50 = .ok (.iadd, 1) := by decide +kernel
theorem dX6_sendFrame_51 : decode cX6_sendFrame 51 = .ok (.iload_n 1, 1) := by decide +kernel
theorem dX6_sendFrame_52 : decode cX6_sendFrame 52 = .ok (.invokevirtual 139, 3) := by decide +kernel
theorem dX6_sendFrame_55 : decode cX6_sendFrame 55 = .ok (.aload_n 0, 1) := by decide +kernel
theorem dX6_sendFrame_56 : decode cX6_sendFrame 56 = .ok (.iconst 3, 1) := by decide +kernel
theorem dX6_sendFrame_57 : decode cX6_sendFrame 57 = .ok (.iload_n 2, 1) := by decide +kernel
theorem dX6_sendFrame_58 : decode cX6_sendFrame 58 = .ok (.iconst 1, 1) := by decide +kernel
theorem dX6_sendFrame_59 : decode cX6_sendFrame 59 = .ok (.iadd, 1) := by decide +kernel
theorem dX6_sendFrame_60 : decode cX6_sendFrame 60 = .ok (.invokevirtual 139, 3) := by decide +kernel
theorem dX6_sendFrame_63 : decode cX6_sendFrame 63 = .ok (.aload_n 0, 1) := by decide +kernel
theorem dX6_sendFrame_64 : decode cX6_sendFrame 64 = .ok (.getfield 35, 3) := by decide +kernel
theorem dX6_sendFrame_67 : decode cX6_sendFrame 67 = .ok (.bipush 7, 2) := by decide +kernel
theorem dX6_sendFrame_69 : decode cX6_sendFrame 69 = .ok (.iconst 1, 1) := by decide +kernel
theorem dX6_sendFrame_70 : decode cX6_sendFrame 70 = .ok (.iastore, 1) := by decide +kernel
theorem dX6_sendFrame_71 : decode cX6_sendFrame 71 = .ok (.return_, 1) := by decide +kernel
theorem dX6_runStep_0 : decode cX6_runStep 0 = .ok (.aload_n 0, 1) := by decide +kernel
theorem dX6_runStep_1 : decode cX6_runStep 1 = .ok (.getfield 16, 3) := by decide +kernel
theorem dX6_runStep_4 : decode cX6_runStep 4 = .ok (.iconst 0, 1) := by decide +kernel
theorem dX6_runStep_5 : decode cX6_runStep 5 = .ok (.iaload, 1) := by decide +kernel
theorem dX6_runStep_6 : decode cX6_runStep 6 = .ok (.istore_n 1, 1) := by decide +kernel
theorem dX6_runStep_7 : decode cX6_runStep 7 = .ok (.aload_n 0, 1) := by decide +kernel
theorem dX6_runStep_8 : decode cX6_runStep 8 = .ok (.getfield 7, 3) := by decide +kernel
theorem dX6_runStep_11 : decode cX6_runStep 11 = .ok (.bipush 32, 2) := by decide +kernel
theorem dX6_runStep_13 : decode cX6_runStep 13 = .ok (.iload_n 1, 1) := by decide +kernel
theorem dX6_runStep_14 : decode cX6_runStep 14 = .ok (.imul, 1) := by decide +kernel
theorem dX6_runStep_15 : decode cX6_runStep 15 = .ok (.aload_n 0, 1) := by decide +kernel
theorem dX6_runStep_16 : decode cX6_runStep 16 = .ok (.getfield 102, 3) := by decide +kernel
theorem dX6_runStep_19 : decode cX6_runStep 19 = .ok (.iadd, 1) := by decide +kernel
theorem dX6_runStep_20 : decode cX6_runStep 20 = .ok (.iaload, 1) := by decide +kernel
theorem dX6_runStep_21 : decode cX6_runStep 21 = .ok (.istore_n 2, 1) := by decide +kernel
theorem dX6_runStep_22 : decode cX6_runStep 22 = .ok (.aload_n 0, 1) := by decide +kernel
theorem dX6_runStep_23 : decode cX6_runStep 23 = .ok (.iload_n 2, 1) := by decide +kernel
theorem dX6_runStep_24 : decode cX6_runStep 24 = .ok (.invokestatic 67, 3) := by decide +kernel
theorem dX6_runStep_27 : decode cX6_runStep 27 = .ok (.invokestatic 142, 3) := by decide +kernel
theorem dX6_runStep_30 : decode cX6_runStep 30 = .ok (.invokevirtual 117, 3) := by decide +kernel
theorem dX6_runStep_33 : decode cX6_runStep 33 = .ok (.ifCond .ne 4, 3) := by decide +kernel
theorem dX6_runStep_36 : decode cX6_runStep 36 = .ok (.return_, 1) := by decide +kernel
theorem dX6_runStep_37 : decode cX6_runStep 37 = .ok (.iload_n 2, 1) := by decide +kernel
theorem dX6_runStep_38 : decode cX6_runStep 38 = .ok (.invokestatic 71, 3) := by decide +kernel
theorem dX6_runStep_41 : decode cX6_runStep 41 = .ok (.istore_n 3, 1) := by decide +kernel
theorem dX6_runStep_42 : decode cX6_runStep 42 = .ok (.iload_n 2, 1) := by decide +kernel
theorem dX6_runStep_43 : decode cX6_runStep 43 = .ok (.invokestatic 74, 3) := by decide +kernel
theorem dX6_runStep_46 : decode cX6_runStep 46 = .ok (.istore 4, 2) := by decide +kernel
theorem dX6_runStep_48 : decode cX6_runStep 48 = .ok (.iload_n 2, 1) := by decide +kernel
theorem dX6_runStep_49 : decode cX6_runStep 49 = .ok (.invokestatic 77, 3) := by decide +kernel
theorem dX6_runStep_52 : decode cX6_runStep 52 = .ok (.istore 5, 2) := by decide +kernel
theorem dX6_runStep_54 : decode cX6_runStep 54 = .ok (.aload_n 0, 1) := by decide +kernel
theorem dX6_runStep_55 : decode cX6_runStep 55 = .ok (.dup, 1) := by decide +kernel
theorem dX6_runStep_56 : decode cX6_runStep 56 = .ok (.getfield 102, 3) := by decide +kernel
theorem dX6_runStep_59 : decode cX6_runStep 59 = .ok (.iconst 1, 1) := by decide +kernel
theorem dX6_runStep_60 : decode cX6_runStep 60 = .ok (.iadd, 1) := by decide +kernel
theorem dX6_runStep_61 : decode cX6_runStep 61 = .ok (.putfield 102, 3) := by decide +kernel
theorem dX6_runStep_64 : decode cX6_runStep 64 = .ok (.iload_n 2, 1) := by decide +kernel
theorem dX6_runStep_65 : decode cX6_runStep 65 = .ok (.invokestatic 67, 3) := by decide +kernel
theorem dX6_runStep_68 : decode cX6_runStep 68 = .ok (.tableswitch 487 0 16 #[84, 148, 167, 191, 215, 239, 263, 281, 290, 308, 343, 375, 422, 437, 447, 463, 476], 84) := by decide +kernel
theorem dX6_runStep_152 : decode cX6_runStep 152 = .ok (.aload_n 0, 1) := by decide +kernel
theorem dX6_runStep_153 : decode cX6_runStep 153 = .ok (.iconst 4, 1) := by decide +kernel
theorem dX6_runStep_154 : decode cX6_runStep 154 = .ok (.putfield 93, 3) := by decide +kernel
theorem dX6_runStep_157 : decode cX6_runStep 157 = .ok (.aload_n 0, 1) := by decide +kernel
theorem dX6_runStep_158 : decode cX6_runStep 158 = .ok (.getfield 38, 3) := by decide +kernel
theorem dX6_runStep_161 : decode cX6_runStep 161 = .ok (.aload_n 0, 1) := by decide +kernel
theorem dX6_runStep_162 : decode cX6_runStep 162 = .ok (.getfield 84, 3) := by decide +kernel
theorem dX6_runStep_165 : decode cX6_runStep 165 = .ok (.iconst 0, 1) := by decide +kernel
theorem dX6_runStep_166 : decode cX6_runStep 166 = .ok (.iastore, 1) := by decide +kernel
theorem dX6_runStep_167 : decode cX6_runStep 167 = .ok (.aload_n 0, 1) := by decide +kernel
theorem dX6_runStep_168 : decode cX6_runStep 168 = .ok (.getfield 41, 3) := by decide +kernel
theorem dX6_runStep_171 : decode cX6_runStep 171 = .ok (.aload_n 0, 1) := by decide +kernel
theorem dX6_runStep_172 : decode cX6_runStep 172 = .ok (.getfield 84, 3) := by decide +kernel
theorem dX6_runStep_175 : decode cX6_runStep 175 = .ok (.iload_n 3, 1) := by decide +kernel
theorem dX6_runStep_176 : decode cX6_runStep 176 = .ok (.iastore, 1) := by decide +kernel
theorem dX6_runStep_177 : decode cX6_runStep 177 = .ok (.aload_n 0, 1) := by decide +kernel
theorem dX6_runStep_178 : decode cX6_runStep 178 = .ok (.getfield 38, 3) := by decide +kernel
theorem dX6_runStep_181 : decode cX6_runStep 181 = .ok (.aload_n 0, 1) := by decide +kernel
theorem dX6_runStep_182 : decode cX6_runStep 182 = .ok (.getfield 84, 3) := by decide +kernel
theorem dX6_runStep_185 : decode cX6_runStep 185 = .ok (.iconst 1, 1) := by decide +kernel
theorem dX6_runStep_186 : decode cX6_runStep 186 = .ok (.iadd, 1) := by decide +kernel
theorem dX6_runStep_187 : decode cX6_runStep 187 = .ok (.iconst 1, 1) := by decide +kernel
theorem dX6_runStep_188 : decode cX6_runStep 188 = .ok (.iastore, 1) := by decide +kernel
theorem dX6_runStep_189 : decode cX6_runStep 189 = .ok (.aload_n 0, 1) := by decide +kernel
theorem dX6_runStep_190 : decode cX6_runStep 190 = .ok (.getfield 41, 3) := by decide +kernel
theorem dX6_runStep_193 : decode cX6_runStep 193 = .ok (.aload_n 0, 1) := by decide +kernel
theorem dX6_runStep_194 : decode cX6_runStep 194 = .ok (.getfield 84, 3) := by decide +kernel
theorem dX6_runStep_197 : decode cX6_runStep 197 = .ok (.iconst 1, 1) := by decide +kernel
theorem dX6_runStep_198 : decode cX6_runStep 198 = .ok (.iadd, 1) := by decide +kernel
theorem dX6_runStep_199 : decode cX6_runStep 199 = .ok (.aload_n 0, 1) := by decide +kernel
theorem dX6_runStep_200 : decode cX6_runStep 200 = .ok (.getfield 16, 3) := by decide +kernel
theorem dX6_runStep_203 : decode cX6_runStep 203 = .ok (.iconst 1, 1) := by decide +kernel
theorem dX6_runStep_204 : decode cX6_runStep 204 = .ok (.iaload, 1) := by decide +kernel
theorem dX6_runStep_205 : decode cX6_runStep 205 = .ok (.iconst 1, 1) := by decide +kernel
theorem dX6_runStep_206 : decode cX6_runStep 206 = .ok (.iadd, 1) := by decide +kernel
theorem dX6_runStep_207 : decode cX6_runStep 207 = .ok (.iastore, 1) := by decide +kernel
theorem dX6_runStep_208 : decode cX6_runStep 208 = .ok (.aload_n 0, 1) := by decide +kernel
theorem dX6_runStep_209 : decode cX6_runStep 209 = .ok (.iconst 0, 1) := by decide +kernel
theorem dX6_runStep_210 : decode cX6_runStep 210 = .ok (.putfield 108, 3) := by decide +kernel
theorem dX6_runStep_213 : decode cX6_runStep 213 = .ok (.goto 387, 3) := by decide +kernel
theorem dX6_runStep_216 : decode cX6_runStep 216 = .ok (.aload_n 0, 1) := by decide +kernel
theorem dX6_runStep_217 : decode cX6_runStep 217 = .ok (.getfield 35, 3) := by decide +kernel
theorem dX6_runStep_220 : decode cX6_runStep 220 = .ok (.iload_n 3, 1) := by decide +kernel
theorem dX6_runStep_221 : decode cX6_runStep 221 = .ok (.sipush 256, 3) := by decide +kernel
theorem dX6_runStep_224 : decode cX6_runStep 224 = .ok (.iload 4, 2) := by decide +kernel
theorem dX6_runStep_226 : decode cX6_runStep 226 = .ok (.imul, 1) := by decide +kernel
theorem dX6_runStep_227 : decode cX6_runStep 227 = .ok (.iload 5, 2) := by decide +kernel
theorem dX6_runStep_229 : decode cX6_runStep 229 = .ok (.iadd, 1) := by decide +kernel
theorem dX6_runStep_230 : decode cX6_runStep 230 = .ok (.i2s, 1) := by decide +kernel
theorem dX6_runStep_231 : decode cX6_runStep 231 = .ok (.iastore, 1) := by decide +kernel
theorem dX6_runStep_232 : decode cX6_runStep 232 = .ok (.goto 368, 3) := by decide +kernel
theorem dX6_runStep_235 : decode cX6_runStep 235 = .ok (.aload_n 0, 1) := by decide +kernel
theorem dX6_runStep_236 : decode cX6_runStep 236 = .ok (.getfield 35, 3) := by decide +kernel
theorem dX6_runStep_239 : decode cX6_runStep 239 = .ok (.iload_n 3, 1) := by decide +kernel
theorem dX6_runStep_240 : decode cX6_runStep 240 = .ok (.aload_n 0, 1) := by decide +kernel
theorem dX6_runStep_241 : decode cX6_runStep 241 = .ok (.getfield 35, 3) := by decide +kernel
theorem dX6_runStep_244 : decode cX6_runStep 244 = .ok (.iload 4, 2) := by decide +kernel
theorem dX6_runStep_246 : decode cX6_runStep 246 = .ok (.iaload, 1) := by decide +kernel
theorem dX6_runStep_247 : decode cX6_runStep 247 = .ok (.aload_n 0, 1) := by decide +kernel
theorem dX6_runStep_248 : decode cX6_runStep 248 = .ok (.getfield 35, 3) := by decide +kernel
theorem dX6_runStep_251 : decode cX6_runStep 251 = .ok (.iload 5, 2) := by decide +kernel
theorem dX6_runStep_253 : decode cX6_runStep 253 = .ok (.iaload, 1) := by decide +kernel
theorem dX6_runStep_254 : decode cX6_runStep 254 = .ok (.iadd, 1) := by decide +kernel
theorem dX6_runStep_255 : decode cX6_runStep 255 = .ok (.iastore, 1) := by decide +kernel
theorem dX6_runStep_256 : decode cX6_runStep 256 = .ok (.goto 344, 3) := by decide +kernel
theorem dX6_runStep_259 : decode cX6_runStep 259 = .ok (.aload_n 0, 1) := by decide +kernel
theorem dX6_runStep_260 : decode cX6_runStep 260 = .ok (.getfield 35, 3) := by decide +kernel
theorem dX6_runStep_263 : decode cX6_runStep 263 = .ok (.iload_n 3, 1) := by decide +kernel
theorem dX6_runStep_264 : decode cX6_runStep 264 = .ok (.aload_n 0, 1) := by decide +kernel
theorem dX6_runStep_265 : decode cX6_runStep 265 = .ok (.getfield 35, 3) := by decide +kernel
theorem dX6_runStep_268 : decode cX6_runStep 268 = .ok (.iload 4, 2) := by decide +kernel
theorem dX6_runStep_270 : decode cX6_runStep 270 = .ok (.iaload, 1) := by decide +kernel
theorem dX6_runStep_271 : decode cX6_runStep 271 = .ok (.aload_n 0, 1) := by decide +kernel
theorem dX6_runStep_272 : decode cX6_runStep 272 = .ok (.getfield 35, 3) := by decide +kernel
theorem dX6_runStep_275 : decode cX6_runStep 275 = .ok (.iload 5, 2) := by decide +kernel
theorem dX6_runStep_277 : decode cX6_runStep 277 = .ok (.iaload, 1) := by decide +kernel
theorem dX6_runStep_278 : decode cX6_runStep 278 = .ok (.isub, 1) := by decide +kernel
theorem dX6_runStep_279 : decode cX6_runStep 279 = .ok (.iastore, 1) := by decide +kernel
theorem dX6_runStep_280 : decode cX6_runStep 280 = .ok (.goto 320, 3) := by decide +kernel
theorem dX6_runStep_283 : decode cX6_runStep 283 = .ok (.aload_n 0, 1) := by decide +kernel
theorem dX6_runStep_284 : decode cX6_runStep 284 = .ok (.getfield 35, 3) := by decide +kernel
theorem dX6_runStep_287 : decode cX6_runStep 287 = .ok (.iload_n 3, 1) := by decide +kernel
theorem dX6_runStep_288 : decode cX6_runStep 288 = .ok (.aload_n 0, 1) := by decide +kernel
theorem dX6_runStep_289 : decode cX6_runStep 289 = .ok (.getfield 35, 3) := by decide +kernel
theorem dX6_runStep_292 : decode cX6_runStep 292 = .ok (.iload 4, 2) := by decide +kernel
theorem dX6_runStep_294 : decode cX6_runStep 294 = .ok (.iaload, 1) := by decide +kernel
theorem dX6_runStep_295 : decode cX6_runStep 295 = .ok (.aload_n 0, 1) := by decide +kernel
theorem dX6_runStep_296 : decode cX6_runStep 296 = .ok (.getfield 35, 3) := by decide +kernel
theorem dX6_runStep_299 : decode cX6_runStep 299 = .ok (.iload 5, 2) := by decide +kernel
theorem dX6_runStep_301 : decode cX6_runStep 301 = .ok (.iaload, 1) := by decide +kernel
theorem dX6_runStep_302 : decode cX6_runStep 302 = .ok (.imul, 1) := by decide +kernel
theorem dX6_runStep_303 : decode cX6_runStep 303 = .ok (.iastore, 1) := by decide +kernel
theorem dX6_runStep_304 : decode cX6_runStep 304 = .ok (.goto 296, 3) := by decide +kernel
theorem dX6_runStep_307 : decode cX6_runStep 307 = .ok (.aload_n 0, 1) := by decide +kernel
theorem dX6_runStep_308 : decode cX6_runStep 308 = .ok (.getfield 35, 3) := by decide +kernel
theorem dX6_runStep_311 : decode cX6_runStep 311 = .ok (.iload_n 3, 1) := by decide +kernel
theorem dX6_runStep_312 : decode cX6_runStep 312 = .ok (.aload_n 0, 1) := by decide +kernel
theorem dX6_runStep_313 : decode cX6_runStep 313 = .ok (.getfield 35, 3) := by decide +kernel
theorem dX6_runStep_316 : decode cX6_runStep 316 = .ok (.iload 4, 2) := by decide +kernel
theorem dX6_runStep_318 : decode cX6_runStep 318 = .ok (.iaload, 1) := by decide +kernel
theorem dX6_runStep_319 : decode cX6_runStep 319 = .ok (.aload_n 0, 1) := by decide +kernel
theorem dX6_runStep_320 : decode cX6_runStep 320 = .ok (.getfield 35, 3) := by decide +kernel
theorem dX6_runStep_323 : decode cX6_runStep 323 = .ok (.iload 5, 2) := by decide +kernel
theorem dX6_runStep_325 : decode cX6_runStep 325 = .ok (.iaload, 1) := by decide +kernel
theorem dX6_runStep_326 : decode cX6_runStep 326 = .ok (.ixor, 1) := by decide +kernel
theorem dX6_runStep_327 : decode cX6_runStep 327 = .ok (.iastore, 1) := by decide +kernel
theorem dX6_runStep_328 : decode cX6_runStep 328 = .ok (.goto 272, 3) := by decide +kernel
theorem dX6_runStep_331 : decode cX6_runStep 331 = .ok (.aload_n 0, 1) := by decide +kernel
theorem dX6_runStep_332 : decode cX6_runStep 332 = .ok (.getfield 35, 3) := by decide +kernel
theorem dX6_runStep_335 : decode cX6_runStep 335 = .ok (.iload_n 3, 1) := by decide +kernel
theorem dX6_runStep_336 : decode cX6_runStep 336 = .ok (.iaload, 1) := by decide +kernel
theorem dX6_runStep_337 : decode cX6_runStep 337 = .ok (.ifCond .ne 263, 3) := by decide +kernel
theorem dX6_runStep_340 : decode cX6_runStep 340 = .ok (.aload_n 0, 1) := by decide +kernel
theorem dX6_runStep_341 : decode cX6_runStep 341 = .ok (.iload 4, 2) := by decide +kernel
theorem dX6_runStep_343 : decode cX6_runStep 343 = .ok (.putfield 102, 3) := by decide +kernel
theorem dX6_runStep_346 : decode cX6_runStep 346 = .ok (.goto 254, 3) := by decide +kernel
theorem dX6_runStep_349 : decode cX6_runStep 349 = .ok (.aload_n 0, 1) := by decide +kernel
theorem dX6_runStep_350 : decode cX6_runStep 350 = .ok (.iload 4, 2) := by decide +kernel
theorem dX6_runStep_352 : decode cX6_runStep 352 = .ok (.putfield 102, 3) := by decide +kernel
theorem dX6_runStep_355 : decode cX6_runStep 355 = .ok (.goto 245, 3) := by decide +kernel
theorem dX6_runStep_358 : decode cX6_runStep 358 = .ok (.aload_n 0, 1) := by decide +kernel
theorem dX6_runStep_359 : decode cX6_runStep 359 = .ok (.getfield 35, 3) := by decide +kernel
theorem dX6_runStep_362 : decode cX6_runStep 362 = .ok (.iload_n 3, 1) := by decide +kernel
theorem dX6_runStep_363 : decode cX6_runStep 363 = .ok (.aload_n 0, 1) := by decide +kernel
theorem dX6_runStep_364 : decode cX6_runStep 364 = .ok (.bipush 8, 2) := by decide +kernel
theorem dX6_runStep_366 : decode cX6_runStep 366 = .ok (.iload 4, 2) := by decide +kernel
theorem dX6_runStep_368 : decode cX6_runStep 368 = .ok (.iadd, 1) := by decide +kernel
theorem dX6_runStep_369 : decode cX6_runStep 369 = .ok (.invokevirtual 133, 3) := by decide +kernel
theorem dX6_runStep_372 : decode cX6_runStep 372 = .ok (.iastore, 1) := by decide +kernel
theorem dX6_runStep_373 : decode cX6_runStep 373 = .ok (.goto 227, 3) := by decide +kernel
theorem dX6_runStep_376 : decode cX6_runStep 376 = .ok (.aload_n 0, 1) := by decide +kernel
theorem dX6_runStep_377 : decode cX6_runStep 377 = .ok (.bipush 8, 2) := by decide +kernel
theorem dX6_runStep_379 : decode cX6_runStep 379 = .ok (.iload 4, 2) := by decide +kernel
theorem dX6_runStep_381 : decode cX6_runStep 381 = .ok (.iadd, 1) := by decide +kernel
theorem dX6_runStep_382 : decode cX6_runStep 382 = .ok (.bipush 8, 2) := by decide +kernel
theorem dX6_runStep_384 : decode cX6_runStep 384 = .ok (.iload 4, 2) := by decide +kernel
theorem dX6_runStep_386 : decode cX6_runStep 386 = .ok (.iadd, 1) := by decide +kernel
theorem dX6_runStep_387 : decode cX6_runStep 387 = .ok (.invokevirtual 136, 3) := by decide +kernel
theorem dX6_runStep_390 : decode cX6_runStep 390 = .ok (.ifCond .eq 210, 3) := by decide +kernel
theorem dX6_runStep_393 : decode cX6_runStep 393 = .ok (.aload_n 0, 1) := by decide +kernel
theorem dX6_runStep_394 : decode cX6_runStep 394 = .ok (.bipush 8, 2) := by decide +kernel
theorem dX6_runStep_396 : decode cX6_runStep 396 = .ok (.iload 4, 2) := by decide +kernel
theorem dX6_runStep_398 : decode cX6_runStep 398 = .ok (.iadd, 1) := by decide +kernel
theorem dX6_runStep_399 : decode cX6_runStep 399 = .ok (.aload_n 0, 1) := by decide +kernel
theorem dX6_runStep_400 : decode cX6_runStep 400 = .ok (.getfield 35, 3) := by decide +kernel
theorem dX6_runStep_403 : decode cX6_runStep 403 = .ok (.iload_n 3, 1) := by decide +kernel
theorem dX6_runStep_404 : decode cX6_runStep 404 = .ok (.iaload, 1) := by decide +kernel
theorem dX6_runStep_405 : decode cX6_runStep 405 = .ok (.invokevirtual 139, 3) := by decide +kernel
theorem dX6_runStep_408 : decode cX6_runStep 408 = .ok (.goto 192, 3) := by decide +kernel
theorem dX6_runStep_411 : decode cX6_runStep 411 = .ok (.aload_n 0, 1) := by decide +kernel
theorem dX6_runStep_412 : decode cX6_runStep 412 = .ok (.getfield 35, 3) := by decide +kernel
theorem dX6_runStep_415 : decode cX6_runStep 415 = .ok (.iload_n 3, 1) := by decide +kernel
theorem dX6_runStep_416 : decode cX6_runStep 416 = .ok (.aload_n 0, 1) := by decide +kernel
theorem dX6_runStep_417 : decode cX6_runStep 417 = .ok (.bipush 24, 2) := by decide +kernel
theorem dX6_runStep_419 : decode cX6_runStep 419 = .ok (.bipush 8, 2) := by decide +kernel
theorem dX6_runStep_421 : decode cX6_runStep 421 = .ok (.iload 4, 2) := by decide +kernel
theorem dX6_runStep_423 : decode cX6_runStep 423 = .ok (.imul, 1) := by decide +kernel
theorem dX6_runStep_424 : decode cX6_runStep 424 = .ok (.iadd, 1) := by decide +kernel
theorem dX6_runStep_425 : decode cX6_runStep 425 = .ok (.aload_n 0, 1) := by decide +kernel
theorem dX6_runStep_426 : decode cX6_runStep 426 = .ok (.getfield 35, 3) := by decide +kernel
theorem dX6_runStep_429 : decode cX6_runStep 429 = .ok (.iload 5, 2) := by decide +kernel
theorem dX6_runStep_431 : decode cX6_runStep 431 = .ok (.iaload, 1) := by decide +kernel
theorem dX6_runStep_432 : decode cX6_runStep 432 = .ok (.bipush 7, 2) := by decide +kernel
theorem dX6_runStep_434 : decode cX6_runStep 434 = .ok (.iand, 1) := by decide +kernel
theorem dX6_runStep_435 : decode cX6_runStep 435 = .ok (.iadd, 1) := by decide +kernel
theorem dX6_runStep_436 : decode cX6_runStep 436 = .ok (.invokevirtual 133, 3) := by decide +kernel
theorem dX6_runStep_439 : decode cX6_runStep 439 = .ok (.iastore, 1) := by decide +kernel
theorem dX6_runStep_440 : decode cX6_runStep 440 = .ok (.goto 160, 3) := by decide +kernel
theorem dX6_runStep_443 : decode cX6_runStep 443 = .ok (.bipush 24, 2) := by decide +kernel
theorem dX6_runStep_445 : decode cX6_runStep 445 = .ok (.bipush 8, 2) := by decide +kernel
theorem dX6_runStep_447 : decode cX6_runStep 447 = .ok (.iload 4, 2) := by decide +kernel
theorem dX6_runStep_449 : decode cX6_runStep 449 = .ok (.imul, 1) := by decide +kernel
theorem dX6_runStep_450 : decode cX6_runStep 450 = .ok (.iadd, 1) := by decide +kernel
theorem dX6_runStep_451 : decode cX6_runStep 451 = .ok (.aload_n 0, 1) := by decide +kernel
theorem dX6_runStep_452 : decode cX6_runStep 452 = .ok (.getfield 35, 3) := by decide +kernel
theorem dX6_runStep_455 : decode cX6_runStep 455 = .ok (.iload 5, 2) := by decide +kernel
theorem dX6_runStep_457 : decode cX6_runStep 457 = .ok (.iaload, 1) := by decide +kernel
theorem dX6_runStep_458 : decode cX6_runStep 458 = .ok (.bipush 7, 2) := by decide +kernel
theorem dX6_runStep_460 : decode cX6_runStep 460 = .ok (.iand, 1) := by decide +kernel
theorem dX6_runStep_461 : decode cX6_runStep 461 = .ok (.iadd, 1) := by decide +kernel
theorem dX6_runStep_462 : decode cX6_runStep 462 = .ok (.istore 6, 2) := by decide +kernel
theorem dX6_runStep_464 : decode cX6_runStep 464 = .ok (.aload_n 0, 1) := by decide +kernel
theorem dX6_runStep_465 : decode cX6_runStep 465 = .ok (.iload 6, 2) := by decide +kernel
theorem dX6_runStep_467 : decode cX6_runStep 467 = .ok (.iload 6, 2) := by decide +kernel
theorem dX6_runStep_469 : decode cX6_runStep 469 = .ok (.invokevirtual 136, 3) := by decide +kernel
theorem dX6_runStep_472 : decode cX6_runStep 472 = .ok (.ifCond .eq 128, 3) := by decide +kernel
theorem dX6_runStep_475 : decode cX6_runStep 475 = .ok (.aload_n 0, 1) := by decide +kernel
theorem dX6_runStep_476 : decode cX6_runStep 476 = .ok (.iload 6, 2) := by decide +kernel
theorem dX6_runStep_478 : decode cX6_runStep 478 = .ok (.aload_n 0, 1) := by decide +kernel
theorem dX6_runStep_479 : decode cX6_runStep 479 = .ok (.getfield 35, 3) := by decide +kernel
theorem dX6_runStep_482 : decode cX6_runStep 482 = .ok (.iload_n 3, 1) := by decide +kernel
theorem dX6_runStep_483 : decode cX6_runStep 483 = .ok (.iaload, 1) := by decide +kernel
theorem dX6_runStep_484 : decode cX6_runStep 484 = .ok (.invokevirtual 139, 3) := by decide +kernel
theorem dX6_runStep_487 : decode cX6_runStep 487 = .ok (.goto 113, 3) := by decide +kernel
theorem dX6_runStep_490 : decode cX6_runStep 490 = .ok (.aload_n 0, 1) := by decide +kernel
theorem dX6_runStep_491 : decode cX6_runStep 491 = .ok (.iload 4, 2) := by decide +kernel
theorem dX6_runStep_493 : decode cX6_runStep 493 = .ok (.aload_n 0, 1) := by decide +kernel
theorem dX6_runStep_494 : decode cX6_runStep 494 = .ok (.getfield 35, 3) := by decide +kernel
theorem dX6_runStep_497 : decode cX6_runStep 497 = .ok (.iload_n 3, 1) := by decide +kernel
theorem dX6_runStep_498 : decode cX6_runStep 498 = .ok (.iaload, 1) := by decide +kernel
theorem dX6_runStep_499 : decode cX6_runStep 499 = .ok (.invokevirtual 145, 3) := by decide +kernel
theorem dX6_runStep_502 : decode cX6_runStep 502 = .ok (.goto 98, 3) := by decide +kernel
theorem dX6_runStep_505 : decode cX6_runStep 505 = .ok (.aload_n 0, 1) := by decide +kernel
theorem dX6_runStep_506 : decode cX6_runStep 506 = .ok (.iload 4, 2) := by decide +kernel
theorem dX6_runStep_508 : decode cX6_runStep 508 = .ok (.iload_n 3, 1) := by decide +kernel
theorem dX6_runStep_509 : decode cX6_runStep 509 = .ok (.invokevirtual 148, 3) := by decide +kernel
theorem dX6_runStep_512 : decode cX6_runStep 512 = .ok (.goto 88, 3) := by decide +kernel
theorem dX6_runStep_515 : decode cX6_runStep 515 = .ok (.aload_n 0, 1) := by decide +kernel
theorem dX6_runStep_516 : decode cX6_runStep 516 = .ok (.getfield 35, 3) := by decide +kernel
theorem dX6_runStep_519 : decode cX6_runStep 519 = .ok (.iload_n 3, 1) := by decide +kernel
theorem dX6_runStep_520 : decode cX6_runStep 520 = .ok (.aload_n 0, 1) := by decide +kernel
theorem dX6_runStep_521 : decode cX6_runStep 521 = .ok (.getfield 22, 3) := by decide +kernel
theorem dX6_runStep_524 : decode cX6_runStep 524 = .ok (.iload 4, 2) := by decide +kernel
theorem dX6_runStep_526 : decode cX6_runStep 526 = .ok (.iaload, 1) := by decide +kernel
theorem dX6_runStep_527 : decode cX6_runStep 527 = .ok (.iastore, 1) := by decide +kernel
theorem dX6_runStep_528 : decode cX6_runStep 528 = .ok (.goto 72, 3) := by decide +kernel
theorem dX6_runStep_531 : decode cX6_runStep 531 = .ok (.aload_n 0, 1) := by decide +kernel
theorem dX6_runStep_532 : decode cX6_runStep 532 = .ok (.aload_n 0, 1) := by decide +kernel
theorem dX6_runStep_533 : decode cX6_runStep 533 = .ok (.getfield 35, 3) := by decide +kernel
theorem dX6_runStep_536 : decode cX6_runStep 536 = .ok (.iload_n 3, 1) := by decide +kernel
theorem dX6_runStep_537 : decode cX6_runStep 537 = .ok (.iaload, 1) := by decide +kernel
theorem dX6_runStep_538 : decode cX6_runStep 538 = .ok (.invokevirtual 151, 3) := by decide +kernel
theorem dX6_runStep_541 : decode cX6_runStep 541 = .ok (.goto 59, 3) := by decide +kernel
theorem dX6_runStep_544 : decode cX6_runStep 544 = .ok (.aload_n 0, 1) := by decide +kernel
theorem dX6_runStep_545 : decode cX6_runStep 545 = .ok (.aload_n 0, 1) := by decide +kernel
theorem dX6_runStep_546 : decode cX6_runStep 546 = .ok (.getfield 155, 3) := by decide +kernel
theorem dX6_runStep_549 : decode cX6_runStep 549 = .ok (.putfield 105, 3) := by decide +kernel
theorem dX6_runStep_552 : decode cX6_runStep 552 = .ok (.goto 48, 3) := by decide +kernel
theorem dX6_runStep_555 : decode cX6_runStep 555 = .ok (.aload_n 0, 1) := by decide +kernel
theorem dX6_runStep_556 : decode cX6_runStep 556 = .ok (.getfield 105, 3) := by decide +kernel
theorem dX6_runStep_559 : decode cX6_runStep 559 = .ok (.iconst (-1), 1) := by decide +kernel
theorem dX6_runStep_560 : decode cX6_runStep 560 = .ok (.if_icmp .eq 40, 3) := by decide +kernel
theorem dX6_runStep_563 : decode cX6_runStep 563 = .ok (.aload_n 0, 1) := by decide +kernel
theorem dX6_runStep_564 : decode cX6_runStep 564 = .ok (.getfield 155, 3) := by decide +kernel
theorem dX6_runStep_567 : decode cX6_runStep 567 = .ok (.aload_n 0, 1) := by decide +kernel
theorem dX6_runStep_568 : decode cX6_runStep 568 = .ok (.getfield 105, 3) := by decide +kernel
theorem dX6_runStep_571 : decode cX6_runStep 571 = .ok (.isub, 1) := by decide +kernel
theorem dX6_runStep_572 : decode cX6_runStep 572 = .ok (.iload_n 3, 1) := by decide +kernel
theorem dX6_runStep_573 : decode cX6_runStep 573 = .ok (.if_icmp .le 27, 3) := by decide +kernel
theorem dX6_runStep_576 : decode cX6_runStep 576 = .ok (.aload_n 0, 1) := by decide +kernel
theorem dX6_runStep_577 : decode cX6_runStep 577 = .ok (.dup, 1) := by decide +kernel
theorem dX6_runStep_578 : decode cX6_runStep 578 = .ok (.getfield 158, 3) := by decide +kernel
theorem dX6_runStep_581 : decode cX6_runStep 581 = .ok (.iconst 1, 1) := by decide +kernel
theorem dX6_runStep_582 : decode cX6_runStep 582 = .ok (.iadd, 1) := by decide +kernel
theorem dX6_runStep_583 : decode cX6_runStep 583 = .ok (.putfield 158, 3) := by decide +kernel
theorem dX6_runStep_586 : decode cX6_runStep 586 = .ok (.aload_n 0, 1) := by decide +kernel
theorem dX6_runStep_587 : decode cX6_runStep 587 = .ok (.iconst 2, 1) := by decide +kernel
theorem dX6_runStep_588 : decode cX6_runStep 588 = .ok (.putfield 93, 3) := by decide +kernel
theorem dX6_runStep_591 : decode cX6_runStep 591 = .ok (.aload_n 0, 1) := by decide +kernel
theorem dX6_runStep_592 : decode cX6_runStep 592 = .ok (.iconst 0, 1) := by decide +kernel
theorem dX6_runStep_593 : decode cX6_runStep 593 = .ok (.putfield 127, 3) := by decide +kernel
theorem dX6_runStep_596 : decode cX6_runStep 596 = .ok (.aload_n 0, 1) := by decide +kernel
theorem dX6_runStep_597 : decode cX6_runStep 597 = .ok (.invokevirtual 99, 3) := by decide +kernel
theorem dX6_runStep_600 : decode cX6_runStep 600 = .ok (.return_, 1) := by decide +kernel
theorem dX6_commitOne_0 : decode cX6_commitOne 0 = .ok (.aload_n 0, 1) := by decide +kernel
theorem dX6_commitOne_1 : decode cX6_commitOne 1 = .ok (.iconst 4, 1) := by decide +kernel
theorem dX6_commitOne_2 : decode cX6_commitOne 2 = .ok (.invokevirtual 117, 3) := by decide +kernel
theorem dX6_commitOne_5 : decode cX6_commitOne 5 = .ok (.ifCond .ne 4, 3) := by decide +kernel
theorem dX6_commitOne_8 : decode cX6_commitOne 8 = .ok (.return_, 1) := by decide +kernel
theorem dX6_commitOne_9 : decode cX6_commitOne 9 = .ok (.aload_n 0, 1) := by decide +kernel
theorem dX6_commitOne_10 : decode cX6_commitOne 10 = .ok (.getfield 84, 3) := by decide +kernel
theorem dX6_commitOne_13 : decode cX6_commitOne 13 = .ok (.iconst 2, 1) := by decide +kernel
theorem dX6_commitOne_14 : decode cX6_commitOne 14 = .ok (.iadd, 1) := by decide +kernel
theorem dX6_commitOne_15 : decode cX6_commitOne 15 = .ok (.istore_n 1, 1) := by decide +kernel
theorem dX6_commitOne_16 : decode cX6_commitOne 16 = .ok (.aload_n 0, 1) := by decide +kernel
theorem dX6_commitOne_17 : decode cX6_commitOne 17 = .ok (.getfield 108, 3) := by decide +kernel
theorem dX6_commitOne_20 : decode cX6_commitOne 20 = .ok (.istore_n 2, 1) := by decide +kernel
theorem dX6_commitOne_21 : decode cX6_commitOne 21 = .ok (.aload_n 0, 1) := by decide +kernel
theorem dX6_commitOne_22 : decode cX6_commitOne 22 = .ok (.dup, 1) := by decide +kernel
theorem dX6_commitOne_23 : decode cX6_commitOne 23 = .ok (.getfield 108, 3) := by decide +kernel
theorem dX6_commitOne_26 : decode cX6_commitOne 26 = .ok (.iconst 1, 1) := by decide +kernel
theorem dX6_commitOne_27 : decode cX6_commitOne 27 = .ok (.iadd, 1) := by decide +kernel
theorem dX6_commitOne_28 : decode cX6_commitOne 28 = .ok (.putfield 108, 3) := by decide +kernel
theorem dX6_commitOne_31 : decode cX6_commitOne 31 = .ok (.iload_n 2, 1) := by decide +kernel
theorem dX6_commitOne_32 : decode cX6_commitOne 32 = .ok (.iconst 2, 1) := by decide +kernel
theorem dX6_commitOne_33 : decode cX6_commitOne 33 = .ok (.iload_n 1, 1) := by decide +kernel
theorem dX6_commitOne_34 : decode cX6_commitOne 34 = .ok (.imul, 1) := by decide +kernel
theorem dX6_commitOne_35 : decode cX6_commitOne 35 = .ok (.if_icmp .ge 39, 3) := by decide +kernel
theorem dX6_commitOne_38 : decode cX6_commitOne 38 = .ok (.aload_n 0, 1) := by decide +kernel
theorem dX6_commitOne_39 : decode cX6_commitOne 39 = .ok (.bipush 84, 2) := by decide +kernel
theorem dX6_commitOne_41 : decode cX6_commitOne 41 = .ok (.iload_n 2, 1) := by decide +kernel
theorem dX6_commitOne_42 : decode cX6_commitOne 42 = .ok (.iadd, 1) := by decide +kernel
theorem dX6_commitOne_43 : decode cX6_commitOne 43 = .ok (.iload_n 2, 1) := by decide +kernel
theorem dX6_commitOne_44 : decode cX6_commitOne 44 = .ok (.iconst 2, 1) := by decide +kernel
theorem dX6_commitOne_45 : decode cX6_commitOne 45 = .ok (.irem, 1) := by decide +kernel
theorem dX6_commitOne_46 : decode cX6_commitOne 46 = .ok (.ifCond .ne 14, 3) := by decide +kernel
theorem dX6_commitOne_49 : decode cX6_commitOne 49 = .ok (.aload_n 0, 1) := by decide +kernel
theorem dX6_commitOne_50 : decode cX6_commitOne 50 = .ok (.getfield 38, 3) := by decide +kernel
theorem dX6_commitOne_53 : decode cX6_commitOne 53 = .ok (.iload_n 2, 1) := by decide +kernel
theorem dX6_commitOne_54 : decode cX6_commitOne 54 = .ok (.iconst 2, 1) := by decide +kernel
theorem dX6_commitOne_55 : decode cX6_commitOne 55 = .ok (.idiv, 1) := by decide +kernel
theorem dX6_commitOne_56 : decode cX6_commitOne 56 = .ok (.iaload, 1) := by decide +kernel
theorem dX6_commitOne_57 : decode cX6_commitOne 57 = .ok (.goto 11, 3) := by decide +kernel
theorem dX6_commitOne_60 : decode cX6_commitOne 60 = .ok (.aload_n 0, 1) := by decide +kernel
theorem dX6_commitOne_61 : decode cX6_commitOne 61 = .ok (.getfield 41, 3) := by decide +kernel
theorem dX6_commitOne_64 : decode cX6_commitOne 64 = .ok (.iload_n 2, 1) := by decide +kernel
theorem dX6_commitOne_65 : decode cX6_commitOne 65 = .ok (.iconst 2, 1) := by decide +kernel
theorem dX6_commitOne_66 : decode cX6_commitOne 66 = .ok (.idiv, 1) := by decide +kernel
theorem dX6_commitOne_67 : decode cX6_commitOne 67 = .ok (.iaload, 1) := by decide +kernel
theorem dX6_commitOne_68 : decode cX6_commitOne 68 = .ok (.invokevirtual 123, 3) := by decide +kernel
theorem dX6_commitOne_71 : decode cX6_commitOne 71 = .ok (.goto 133, 3) := by decide +kernel
theorem dX6_commitOne_74 : decode cX6_commitOne 74 = .ok (.iload_n 2, 1) := by decide +kernel
theorem dX6_commitOne_75 : decode cX6_commitOne 75 = .ok (.iconst 2, 1) := by decide +kernel
theorem dX6_commitOne_76 : decode cX6_commitOne 76 = .ok (.iload_n 1, 1) := by decide +kernel
theorem dX6_commitOne_77 : decode cX6_commitOne 77 = .ok (.imul, 1) := by decide +kernel
theorem dX6_commitOne_78 : decode cX6_commitOne 78 = .ok (.if_icmp .ne 12, 3) := by decide +kernel
theorem dX6_commitOne_81 : decode cX6_commitOne 81 = .ok (.aload_n 0, 1) := by decide +kernel
theorem dX6_commitOne_82 : decode cX6_commitOne 82 = .ok (.iconst 2, 1) := by decide +kernel
theorem dX6_commitOne_83 : decode cX6_commitOne 83 = .ok (.iload_n 1, 1) := by decide +kernel
theorem dX6_commitOne_84 : decode cX6_commitOne 84 = .ok (.invokevirtual 123, 3) := by decide +kernel
theorem dX6_commitOne_87 : decode cX6_commitOne 87 = .ok (.goto 117, 3) := by decide +kernel
theorem dX6_commitOne_90 : decode cX6_commitOne 90 = .ok (.iload_n 2, 1) := by decide +kernel
theorem dX6_commitOne_91 : decode cX6_commitOne 91 = .ok (.iconst 3, 1) := by decide +kernel
theorem dX6_commitOne_92 : decode cX6_commitOne 92 = .ok (.iload_n 1, 1) := by decide +kernel
theorem dX6_commitOne_93 : decode cX6_commitOne 93 = .ok (.imul, 1) := by decide +kernel
theorem dX6_commitOne_94 : decode cX6_commitOne 94 = .ok (.if_icmp .gt 51, 3) := by decide +kernel
theorem dX6_commitOne_97 : decode cX6_commitOne 97 = .ok (.iload_n 2, 1) := by decide +kernel
theorem dX6_commitOne_98 : decode cX6_commitOne 98 = .ok (.iconst 2, 1) := by decide +kernel
theorem dX6_commitOne_99 : decode cX6_commitOne 99 = .ok (.iload_n 1, 1) := by decide +kernel
theorem dX6_commitOne_100 : decode cX6_commitOne 100 = .ok (.imul, 1) := by decide +kernel
theorem dX6_commitOne_101 : decode cX6_commitOne 101 = .ok (.isub, 1) := by decide +kernel
theorem dX6_commitOne_102 : decode cX6_commitOne 102 = .ok (.iconst 1, 1) := by decide +kernel
theorem dX6_commitOne_103 : decode cX6_commitOne 103 = .ok (.isub, 1) := by decide +kernel
theorem dX6_commitOne_104 : decode cX6_commitOne 104 = .ok (.istore_n 3, 1) := by decide +kernel
theorem dX6_commitOne_105 : decode cX6_commitOne 105 = .ok (.aload_n 0, 1) := by decide +kernel
theorem dX6_commitOne_106 : decode cX6_commitOne 106 = .ok (.iload_n 3, 1) := by decide +kernel
theorem dX6_commitOne_107 : decode cX6_commitOne 107 = .ok (.ifCond .ne 12, 3) := by decide +kernel
theorem dX6_commitOne_110 : decode cX6_commitOne 110 = .ok (.aload_n 0, 1) := by decide +kernel
theorem dX6_commitOne_111 : decode cX6_commitOne 111 = .ok (.getfield 16, 3) := by decide +kernel
theorem dX6_commitOne_114 : decode cX6_commitOne 114 = .ok (.iconst 0, 1) := by decide +kernel
theorem dX6_commitOne_115 : decode cX6_commitOne 115 = .ok (.iaload, 1) := by decide +kernel
theorem dX6_commitOne_116 : decode cX6_commitOne 116 = .ok (.goto 7, 3) := by decide +kernel
theorem dX6_commitOne_119 : decode cX6_commitOne 119 = .ok (.aload_n 0, 1) := by decide +kernel
theorem dX6_commitOne_120 : decode cX6_commitOne 120 = .ok (.getfield 161, 3) := by decide +kernel
theorem dX6_commitOne_123 : decode cX6_commitOne 123 = .ok (.putfield 161, 3) := by decide +kernel
theorem dX6_commitOne_126 : decode cX6_commitOne 126 = .ok (.aload_n 0, 1) := by decide +kernel
theorem dX6_commitOne_127 : decode cX6_commitOne 127 = .ok (.aload_n 0, 1) := by decide +kernel
theorem dX6_commitOne_128 : decode cX6_commitOne 128 = .ok (.getfield 38, 3) := by decide +kernel
theorem dX6_commitOne_131 : decode cX6_commitOne 131 = .ok (.iload_n 3, 1) := by decide +kernel
theorem dX6_commitOne_132 : decode cX6_commitOne 132 = .ok (.iaload, 1) := by decide +kernel
theorem dX6_commitOne_133 : decode cX6_commitOne 133 = .ok (.aload_n 0, 1) := by decide +kernel
theorem dX6_commitOne_134 : decode cX6_commitOne 134 = .ok (.getfield 41, 3) := by decide +kernel
theorem dX6_commitOne_137 : decode cX6_commitOne 137 = .ok (.iload_n 3, 1) := by decide +kernel
theorem dX6_commitOne_138 : decode cX6_commitOne 138 = .ok (.iaload, 1) := by decide +kernel
theorem dX6_commitOne_139 : decode cX6_commitOne 139 = .ok (.invokevirtual 123, 3) := by decide +kernel
theorem dX6_commitOne_142 : decode cX6_commitOne 142 = .ok (.goto 62, 3) := by decide +kernel
theorem dX6_commitOne_145 : decode cX6_commitOne 145 = .ok (.aload_n 0, 1) := by decide +kernel
theorem dX6_commitOne_146 : decode cX6_commitOne 146 = .ok (.iconst 2, 1) := by decide +kernel
theorem dX6_commitOne_147 : decode cX6_commitOne 147 = .ok (.iconst 0, 1) := by decide +kernel
theorem dX6_commitOne_148 : decode cX6_commitOne 148 = .ok (.invokevirtual 123, 3) := by decide +kernel
theorem dX6_commitOne_151 : decode cX6_commitOne 151 = .ok (.aload_n 0, 1) := by decide +kernel
theorem dX6_commitOne_152 : decode cX6_commitOne 152 = .ok (.getfield 96, 3) := by decide +kernel
theorem dX6_commitOne_155 : decode cX6_commitOne 155 = .ok (.aload_n 0, 1) := by decide +kernel
theorem dX6_commitOne_156 : decode cX6_commitOne 156 = .ok (.getfield 25, 3) := by decide +kernel
theorem dX6_commitOne_159 : decode cX6_commitOne 159 = .ok (.aload_n 0, 1) := by decide +kernel
theorem dX6_commitOne_160 : decode cX6_commitOne 160 = .ok (.getfield 161, 3) := by decide +kernel
theorem dX6_commitOne_163 : decode cX6_commitOne 163 = .ok (.iaload, 1) := by decide +kernel
theorem dX6_commitOne_164 : decode cX6_commitOne 164 = .ok (.if_icmp .le 16, 3) := by decide +kernel
theorem dX6_commitOne_167 : decode cX6_commitOne 167 = .ok (.aload_n 0, 1) := by decide +kernel
theorem dX6_commitOne_168 : decode cX6_commitOne 168 = .ok (.getfield 25, 3) := by decide +kernel
theorem dX6_commitOne_171 : decode cX6_commitOne 171 = .ok (.aload_n 0, 1) := by decide +kernel
theorem dX6_commitOne_172 : decode cX6_commitOne 172 = .ok (.getfield 161, 3) := by decide +kernel
theorem dX6_commitOne_175 : decode cX6_commitOne 175 = .ok (.aload_n 0, 1) := by decide +kernel
theorem dX6_commitOne_176 : decode cX6_commitOne 176 = .ok (.getfield 96, 3) := by decide +kernel
theorem dX6_commitOne_179 : decode cX6_commitOne 179 = .ok (.iastore, 1) := by decide +kernel
theorem dX6_commitOne_180 : decode cX6_commitOne 180 = .ok (.aload_n 0, 1) := by decide +kernel
theorem dX6_commitOne_181 : decode cX6_commitOne 181 = .ok (.getfield 28, 3) := by decide +kernel
theorem dX6_commitOne_184 : decode cX6_commitOne 184 = .ok (.aload_n 0, 1) := by decide +kernel
theorem dX6_commitOne_185 : decode cX6_commitOne 185 = .ok (.getfield 161, 3) := by decide +kernel
theorem dX6_commitOne_188 : decode cX6_commitOne 188 = .ok (.iconst 0, 1) := by decide +kernel
theorem dX6_commitOne_189 : decode cX6_commitOne 189 = .ok (.iastore, 1) := by decide +kernel
theorem dX6_commitOne_190 : decode cX6_commitOne 190 = .ok (.aload_n 0, 1) := by decide +kernel
theorem dX6_commitOne_191 : decode cX6_commitOne 191 = .ok (.iconst 2, 1) := by decide +kernel
theorem dX6_commitOne_192 : decode cX6_commitOne 192 = .ok (.putfield 93, 3) := by decide +kernel
theorem dX6_commitOne_195 : decode cX6_commitOne 195 = .ok (.aload_n 0, 1) := by decide +kernel
theorem dX6_commitOne_196 : decode cX6_commitOne 196 = .ok (.iconst 0, 1) := by decide +kernel
theorem dX6_commitOne_197 : decode cX6_commitOne 197 = .ok (.putfield 127, 3) := by decide +kernel
theorem dX6_commitOne_200 : decode cX6_commitOne 200 = .ok (.aload_n 0, 1) := by decide +kernel
theorem dX6_commitOne_201 : decode cX6_commitOne 201 = .ok (.invokevirtual 99, 3) := by decide +kernel
theorem dX6_commitOne_204 : decode cX6_commitOne 204 = .ok (.return_, 1) := by decide +kernel
theorem dX6_beginAttempt_0 : decode cX6_beginAttempt 0 = .ok (.aload_n 0, 1) := by decide +kernel
theorem dX6_beginAttempt_1 : decode cX6_beginAttempt 1 = .ok (.invokevirtual 99, 3) := by decide +kernel
theorem dX6_beginAttempt_4 : decode cX6_beginAttempt 4 = .ok (.aload_n 0, 1) := by decide +kernel
theorem dX6_beginAttempt_5 : decode cX6_beginAttempt 5 = .ok (.iconst 3, 1) := by decide +kernel
theorem dX6_beginAttempt_6 : decode cX6_beginAttempt 6 = .ok (.putfield 93, 3) := by decide +kernel
theorem dX6_beginAttempt_9 : decode cX6_beginAttempt 9 = .ok (.return_, 1) := by decide +kernel
theorem dX6_stepOnce_0 : decode cX6_stepOnce 0 = .ok (.aload_n 0, 1) := by decide +kernel
theorem dX6_stepOnce_1 : decode cX6_stepOnce 1 = .ok (.getfield 93, 3) := by decide +kernel
theorem dX6_stepOnce_4 : decode cX6_stepOnce 4 = .ok (.iconst 2, 1) := by decide +kernel
theorem dX6_stepOnce_5 : decode cX6_stepOnce 5 = .ok (.if_icmp .ne 29, 3) := by decide +kernel
theorem dX6_stepOnce_8 : decode cX6_stepOnce 8 = .ok (.aload_n 0, 1) := by decide +kernel
theorem dX6_stepOnce_9 : decode cX6_stepOnce 9 = .ok (.getfield 127, 3) := by decide +kernel
theorem dX6_stepOnce_12 : decode cX6_stepOnce 12 = .ok (.ifCond .ne 22, 3) := by decide +kernel
theorem dX6_stepOnce_15 : decode cX6_stepOnce 15 = .ok (.aload_n 0, 1) := by decide +kernel
theorem dX6_stepOnce_16 : decode cX6_stepOnce 16 = .ok (.getfield 16, 3) := by decide +kernel
theorem dX6_stepOnce_19 : decode cX6_stepOnce 19 = .ok (.iconst 4, 1) := by decide +kernel
theorem dX6_stepOnce_20 : decode cX6_stepOnce 20 = .ok (.iaload, 1) := by decide +kernel
theorem dX6_stepOnce_21 : decode cX6_stepOnce 21 = .ok (.aload_n 0, 1) := by decide +kernel
theorem dX6_stepOnce_22 : decode cX6_stepOnce 22 = .ok (.getfield 16, 3) := by decide +kernel
theorem dX6_stepOnce_25 : decode cX6_stepOnce 25 = .ok (.iconst 3, 1) := by decide +kernel
theorem dX6_stepOnce_26 : decode cX6_stepOnce 26 = .ok (.iaload, 1) := by decide +kernel
theorem dX6_stepOnce_27 : decode cX6_stepOnce 27 = .ok (.if_icmp .ne 7, 3) := by decide +kernel
theorem dX6_stepOnce_30 : decode cX6_stepOnce 30 = .ok (.aload_n 0, 1) := by decide +kernel
theorem dX6_stepOnce_31 : decode cX6_stepOnce 31 = .ok (.invokevirtual 164, 3) := by decide +kernel
theorem dX6_stepOnce_34 : decode cX6_stepOnce 34 = .ok (.aload_n 0, 1) := by decide +kernel
theorem dX6_stepOnce_35 : decode cX6_stepOnce 35 = .ok (.getfield 90, 3) := by decide +kernel
theorem dX6_stepOnce_38 : decode cX6_stepOnce 38 = .ok (.istore_n 1, 1) := by decide +kernel
theorem dX6_stepOnce_39 : decode cX6_stepOnce 39 = .ok (.aload_n 0, 1) := by decide +kernel
theorem dX6_stepOnce_40 : decode cX6_stepOnce 40 = .ok (.getfield 93, 3) := by decide +kernel
theorem dX6_stepOnce_43 : decode cX6_stepOnce 43 = .ok (.tableswitch 46 1 3 #[25, 32, 39], 25) := by decide +kernel
theorem dX6_stepOnce_68 : decode cX6_stepOnce 68 = .ok (.aload_n 0, 1) := by decide +kernel
theorem dX6_stepOnce_69 : decode cX6_stepOnce 69 = .ok (.invokevirtual 167, 3) := by decide +kernel
theorem dX6_stepOnce_72 : decode cX6_stepOnce 72 = .ok (.goto 21, 3) := by decide +kernel
theorem dX6_stepOnce_75 : decode cX6_stepOnce 75 = .ok (.aload_n 0, 1) := by decide +kernel
theorem dX6_stepOnce_76 : decode cX6_stepOnce 76 = .ok (.invokevirtual 170, 3) := by decide +kernel
theorem dX6_stepOnce_79 : decode cX6_stepOnce 79 = .ok (.goto 14, 3) := by decide +kernel
theorem dX6_stepOnce_82 : decode cX6_stepOnce 82 = .ok (.aload_n 0, 1) := by decide +kernel
theorem dX6_stepOnce_83 : decode cX6_stepOnce 83 = .ok (.invokevirtual 173, 3) := by decide +kernel
theorem dX6_stepOnce_86 : decode cX6_stepOnce 86 = .ok (.goto 7, 3) := by decide +kernel
theorem dX6_stepOnce_89 : decode cX6_stepOnce 89 = .ok (.aload_n 0, 1) := by decide +kernel
theorem dX6_stepOnce_90 : decode cX6_stepOnce 90 = .ok (.invokevirtual 176, 3) := by decide +kernel
theorem dX6_stepOnce_93 : decode cX6_stepOnce 93 = .ok (.aload_n 0, 1) := by decide +kernel
theorem dX6_stepOnce_94 : decode cX6_stepOnce 94 = .ok (.getfield 90, 3) := by decide +kernel
theorem dX6_stepOnce_97 : decode cX6_stepOnce 97 = .ok (.iload_n 1, 1) := by decide +kernel
theorem dX6_stepOnce_98 : decode cX6_stepOnce 98 = .ok (.if_icmp .eq 5, 3) := by decide +kernel
theorem dX6_stepOnce_101 : decode cX6_stepOnce 101 = .ok (.iconst 0, 1) := by decide +kernel
theorem dX6_stepOnce_102 : decode cX6_stepOnce 102 = .ok (.ireturn, 1) := by decide +kernel
theorem dX6_stepOnce_103 : decode cX6_stepOnce 103 = .ok (.aload_n 0, 1) := by decide +kernel
theorem dX6_stepOnce_104 : decode cX6_stepOnce 104 = .ok (.getfield 179, 3) := by decide +kernel
theorem dX6_stepOnce_107 : decode cX6_stepOnce 107 = .ok (.ifCond .le 24, 3) := by decide +kernel
theorem dX6_stepOnce_110 : decode cX6_stepOnce 110 = .ok (.aload_n 0, 1) := by decide +kernel
theorem dX6_stepOnce_111 : decode cX6_stepOnce 111 = .ok (.dup, 1) := by decide +kernel
theorem dX6_stepOnce_112 : decode cX6_stepOnce 112 = .ok (.getfield 179, 3) := by decide +kernel
theorem dX6_stepOnce_115 : decode cX6_stepOnce 115 = .ok (.iconst 1, 1) := by decide +kernel
theorem dX6_stepOnce_116 : decode cX6_stepOnce 116 = .ok (.isub, 1) := by decide +kernel
theorem dX6_stepOnce_117 : decode cX6_stepOnce 117 = .ok (.putfield 179, 3) := by decide +kernel
theorem dX6_stepOnce_120 : decode cX6_stepOnce 120 = .ok (.aload_n 0, 1) := by decide +kernel
theorem dX6_stepOnce_121 : decode cX6_stepOnce 121 = .ok (.getfield 179, 3) := by decide +kernel
theorem dX6_stepOnce_124 : decode cX6_stepOnce 124 = .ok (.ifCond .ne 7, 3) := by decide +kernel
theorem dX6_stepOnce_127 : decode cX6_stepOnce 127 = .ok (.aload_n 0, 1) := by decide +kernel
theorem dX6_stepOnce_128 : decode cX6_stepOnce 128 = .ok (.invokevirtual 114, 3) := by decide +kernel
theorem dX6_stepOnce_131 : decode cX6_stepOnce 131 = .ok (.iconst 1, 1) := by decide +kernel
theorem dX6_stepOnce_132 : decode cX6_stepOnce 132 = .ok (.ireturn, 1) := by decide +kernel
theorem dX6_slot_0 : decode cX6_slot 0 = .ok (.aload_n 0, 1) := by decide +kernel
theorem dX6_slot_1 : decode cX6_slot 1 = .ok (.aload_n 0, 1) := by decide +kernel
theorem dX6_slot_2 : decode cX6_slot 2 = .ok (.getfield 59, 3) := by decide +kernel
theorem dX6_slot_5 : decode cX6_slot 5 = .ok (.ifCond .ne 7, 3) := by decide +kernel
theorem dX6_slot_8 : decode cX6_slot 8 = .ok (.iconst 1, 1) := by decide +kernel
theorem dX6_slot_9 : decode cX6_slot 9 = .ok (.goto 19, 3) := by decide +kernel
theorem dX6_slot_12 : decode cX6_slot 12 = .ok (.iload_n 1, 1) := by decide +kernel
theorem dX6_slot_13 : decode cX6_slot 13 = .ok (.ifCond .lt 10, 3) := by decide +kernel
theorem dX6_slot_16 : decode cX6_slot 16 = .ok (.iload_n 1, 1) := by decide +kernel
theorem dX6_slot_17 : decode cX6_slot 17 = .ok (.sipush 500, 3) := by decide +kernel
theorem dX6_slot_20 : decode cX6_slot 20 = .ok (.if_icmp .le 7, 3) := by decide +kernel
theorem dX6_slot_23 : decode cX6_slot 23 = .ok (.iconst 2, 1) := by decide +kernel
theorem dX6_slot_24 : decode cX6_slot 24 = .ok (.goto 4, 3) := by decide +kernel
theorem dX6_slot_27 : decode cX6_slot 27 = .ok (.iconst 0, 1) := by decide +kernel
theorem dX6_slot_28 : decode cX6_slot 28 = .ok (.putfield 56, 3) := by decide +kernel
theorem dX6_slot_31 : decode cX6_slot 31 = .ok (.aload_n 0, 1) := by decide +kernel
theorem dX6_slot_32 : decode cX6_slot 32 = .ok (.getfield 56, 3) := by decide +kernel
theorem dX6_slot_35 : decode cX6_slot 35 = .ok (.ifCond .eq 5, 3) := by decide +kernel
theorem dX6_slot_38 : decode cX6_slot 38 = .ok (.iconst 0, 1) := by decide +kernel
theorem dX6_slot_39 : decode cX6_slot 39 = .ok (.ireturn, 1) := by decide +kernel
theorem dX6_slot_40 : decode cX6_slot 40 = .ok (.aload_n 0, 1) := by decide +kernel
theorem dX6_slot_41 : decode cX6_slot 41 = .ok (.aload_n 0, 1) := by decide +kernel
theorem dX6_slot_42 : decode cX6_slot 42 = .ok (.getfield 111, 3) := by decide +kernel
theorem dX6_slot_45 : decode cX6_slot 45 = .ok (.iload_n 1, 1) := by decide +kernel
theorem dX6_slot_46 : decode cX6_slot 46 = .ok (.iadd, 1) := by decide +kernel
theorem dX6_slot_47 : decode cX6_slot 47 = .ok (.sipush 2000, 3) := by decide +kernel
theorem dX6_slot_50 : decode cX6_slot 50 = .ok (.if_icmp .le 9, 3) := by decide +kernel
theorem dX6_slot_53 : decode cX6_slot 53 = .ok (.sipush 2000, 3) := by decide +kernel
theorem dX6_slot_56 : decode cX6_slot 56 = .ok (.goto 9, 3) := by decide +kernel
theorem dX6_slot_59 : decode cX6_slot 59 = .ok (.aload_n 0, 1) := by decide +kernel
theorem dX6_slot_60 : decode cX6_slot 60 = .ok (.getfield 111, 3) := by decide +kernel
theorem dX6_slot_63 : decode cX6_slot 63 = .ok (.iload_n 1, 1) := by decide +kernel
theorem dX6_slot_64 : decode cX6_slot 64 = .ok (.iadd, 1) := by decide +kernel
theorem dX6_slot_65 : decode cX6_slot 65 = .ok (.putfield 111, 3) := by decide +kernel
theorem dX6_slot_68 : decode cX6_slot 68 = .ok (.aload_n 0, 1) := by decide +kernel
theorem dX6_slot_69 : decode cX6_slot 69 = .ok (.dup, 1) := by decide +kernel
theorem dX6_slot_70 : decode cX6_slot 70 = .ok (.getfield 155, 3) := by decide +kernel
theorem dX6_slot_73 : decode cX6_slot 73 = .ok (.iconst 1, 1) := by decide +kernel
theorem dX6_slot_74 : decode cX6_slot 74 = .ok (.iadd, 1) := by decide +kernel
theorem dX6_slot_75 : decode cX6_slot 75 = .ok (.putfield 155, 3) := by decide +kernel
theorem dX6_slot_78 : decode cX6_slot 78 = .ok (.aload_n 0, 1) := by decide +kernel
theorem dX6_slot_79 : decode cX6_slot 79 = .ok (.getfield 93, 3) := by decide +kernel
theorem dX6_slot_82 : decode cX6_slot 82 = .ok (.ifCond .ne 88, 3) := by decide +kernel
theorem dX6_slot_85 : decode cX6_slot 85 = .ok (.bipush 60, 2) := by decide +kernel
theorem dX6_slot_87 : decode cX6_slot 87 = .ok (.aload_n 0, 1) := by decide +kernel
theorem dX6_slot_88 : decode cX6_slot 88 = .ok (.getfield 25, 3) := by decide +kernel
theorem dX6_slot_91 : decode cX6_slot 91 = .ok (.aload_n 0, 1) := by decide +kernel
theorem dX6_slot_92 : decode cX6_slot 92 = .ok (.getfield 16, 3) := by decide +kernel
theorem dX6_slot_95 : decode cX6_slot 95 = .ok (.iconst 0, 1) := by decide +kernel
theorem dX6_slot_96 : decode cX6_slot 96 = .ok (.iaload, 1) := by decide +kernel
theorem dX6_slot_97 : decode cX6_slot 97 = .ok (.iaload, 1) := by decide +kernel
theorem dX6_slot_98 : decode cX6_slot 98 = .ok (.iadd, 1) := by decide +kernel
theorem dX6_slot_99 : decode cX6_slot 99 = .ok (.istore_n 2, 1) := by decide +kernel
theorem dX6_slot_100 : decode cX6_slot 100 = .ok (.aload_n 0, 1) := by decide +kernel
theorem dX6_slot_101 : decode cX6_slot 101 = .ok (.getfield 31, 3) := by decide +kernel
theorem dX6_slot_104 : decode cX6_slot 104 = .ok (.iconst (-1), 1) := by decide +kernel
theorem dX6_slot_105 : decode cX6_slot 105 = .ok (.if_icmp .ne 24, 3) := by decide +kernel
theorem dX6_slot_108 : decode cX6_slot 108 = .ok (.aload_n 0, 1) := by decide +kernel
theorem dX6_slot_109 : decode cX6_slot 109 = .ok (.getfield 111, 3) := by decide +kernel
theorem dX6_slot_112 : decode cX6_slot 112 = .ok (.iload_n 2, 1) := by decide +kernel
theorem dX6_slot_113 : decode cX6_slot 113 = .ok (.sipush 2000, 3) := by decide +kernel
theorem dX6_slot_116 : decode cX6_slot 116 = .ok (.if_icmp .le 9, 3) := by decide +kernel
theorem dX6_slot_119 : decode cX6_slot 119 = .ok (.sipush 2000, 3) := by decide +kernel
theorem dX6_slot_122 : decode cX6_slot 122 = .ok (.goto 4, 3) := by decide +kernel
theorem dX6_slot_125 : decode cX6_slot 125 = .ok (.iload_n 2, 1) := by decide +kernel
theorem dX6_slot_126 : decode cX6_slot 126 = .ok (.if_icmp .ge 5, 3) := by decide +kernel
theorem dX6_slot_129 : decode cX6_slot 129 = .ok (.iconst (-1), 1) := by decide +kernel
theorem dX6_slot_130 : decode cX6_slot 130 = .ok (.ireturn, 1) := by decide +kernel
theorem dX6_slot_131 : decode cX6_slot 131 = .ok (.aload_n 0, 1) := by decide +kernel
theorem dX6_slot_132 : decode cX6_slot 132 = .ok (.dup, 1) := by decide +kernel
theorem dX6_slot_133 : decode cX6_slot 133 = .ok (.getfield 111, 3) := by decide +kernel
theorem dX6_slot_136 : decode cX6_slot 136 = .ok (.bipush 60, 2) := by decide +kernel
theorem dX6_slot_138 : decode cX6_slot 138 = .ok (.isub, 1) := by decide +kernel
theorem dX6_slot_139 : decode cX6_slot 139 = .ok (.putfield 111, 3) := by decide +kernel
theorem dX6_slot_142 : decode cX6_slot 142 = .ok (.aload_n 0, 1) := by decide +kernel
theorem dX6_slot_143 : decode cX6_slot 143 = .ok (.iconst 0, 1) := by decide +kernel
theorem dX6_slot_144 : decode cX6_slot 144 = .ok (.putfield 120, 3) := by decide +kernel
theorem dX6_slot_147 : decode cX6_slot 147 = .ok (.aload_n 0, 1) := by decide +kernel
theorem dX6_slot_148 : decode cX6_slot 148 = .ok (.iconst 0, 1) := by decide +kernel
theorem dX6_slot_149 : decode cX6_slot 149 = .ok (.putfield 127, 3) := by decide +kernel
theorem dX6_slot_152 : decode cX6_slot 152 = .ok (.aload_n 0, 1) := by decide +kernel
theorem dX6_slot_153 : decode cX6_slot 153 = .ok (.aload_n 0, 1) := by decide +kernel
theorem dX6_slot_154 : decode cX6_slot 154 = .ok (.getfield 16, 3) := by decide +kernel
theorem dX6_slot_157 : decode cX6_slot 157 = .ok (.iconst 2, 1) := by decide +kernel
theorem dX6_slot_158 : decode cX6_slot 158 = .ok (.iaload, 1) := by decide +kernel
theorem dX6_slot_159 : decode cX6_slot 159 = .ok (.ifCond .eq 7, 3) := by decide +kernel
theorem dX6_slot_162 : decode cX6_slot 162 = .ok (.iconst 1, 1) := by decide +kernel
theorem dX6_slot_163 : decode cX6_slot 163 = .ok (.goto 4, 3) := by decide +kernel
theorem dX6_slot_166 : decode cX6_slot 166 = .ok (.iconst 2, 1) := by decide +kernel
theorem dX6_slot_167 : decode cX6_slot 167 = .ok (.putfield 93, 3) := by decide +kernel
theorem dX6_slot_170 : decode cX6_slot 170 = .ok (.iconst 0, 1) := by decide +kernel
theorem dX6_slot_171 : decode cX6_slot 171 = .ok (.istore_n 2, 1) := by decide +kernel
theorem dX6_slot_172 : decode cX6_slot 172 = .ok (.iconst 0, 1) := by decide +kernel
theorem dX6_slot_173 : decode cX6_slot 173 = .ok (.istore_n 3, 1) := by decide +kernel
theorem dX6_slot_174 : decode cX6_slot 174 = .ok (.iload_n 3, 1) := by decide +kernel
theorem dX6_slot_175 : decode cX6_slot 175 = .ok (.bipush 16, 2) := by decide +kernel
theorem dX6_slot_177 : decode cX6_slot 177 = .ok (.if_icmp .ge 26, 3) := by decide +kernel
theorem dX6_slot_180 : decode cX6_slot 180 = .ok (.aload_n 0, 1) := by decide +kernel
theorem dX6_slot_181 : decode cX6_slot 181 = .ok (.getfield 93, 3) := by decide +kernel
theorem dX6_slot_184 : decode cX6_slot 184 = .ok (.ifCond .eq 19, 3) := by decide +kernel
theorem dX6_slot_187 : decode cX6_slot 187 = .ok (.aload_n 0, 1) := by decide +kernel
theorem dX6_slot_188 : decode cX6_slot 188 = .ok (.invokevirtual 182, 3) := by decide +kernel
theorem dX6_slot_191 : decode cX6_slot 191 = .ok (.ifCond .eq 6, 3) := by decide +kernel
theorem dX6_slot_194 : decode cX6_slot 194 = .ok (.iinc 2 1, 3) := by decide +kernel
theorem dX6_slot_197 : decode cX6_slot 197 = .ok (.iinc 3 1, 3) := by decide +kernel
theorem dX6_slot_200 : decode cX6_slot 200 = .ok (.goto (-26), 3) := by decide +kernel
theorem dX6_slot_203 : decode cX6_slot 203 = .ok (.iload_n 2, 1) := by decide +kernel
theorem dX6_slot_204 : decode cX6_slot 204 = .ok (.ireturn, 1) := by decide +kernel
theorem dX6_cut_0 : decode cX6_cut 0 = .ok (.aload_n 0, 1) := by decide +kernel
theorem dX6_cut_1 : decode cX6_cut 1 = .ok (.iconst 0, 1) := by decide +kernel
theorem dX6_cut_2 : decode cX6_cut 2 = .ok (.putfield 56, 3) := by decide +kernel
theorem dX6_cut_5 : decode cX6_cut 5 = .ok (.iload_n 1, 1) := by decide +kernel
theorem dX6_cut_6 : decode cX6_cut 6 = .ok (.ifCond .lt 10, 3) := by decide +kernel
theorem dX6_cut_9 : decode cX6_cut 9 = .ok (.iload_n 1, 1) := by decide +kernel
theorem dX6_cut_10 : decode cX6_cut 10 = .ok (.sipush 10000, 3) := by decide +kernel
theorem dX6_cut_13 : decode cX6_cut 13 = .ok (.if_icmp .le 5, 3) := by decide +kernel
theorem dX6_cut_16 : decode cX6_cut 16 = .ok (.iconst 0, 1) := by decide +kernel
theorem dX6_cut_17 : decode cX6_cut 17 = .ok (.ireturn, 1) := by decide +kernel
theorem dX6_cut_18 : decode cX6_cut 18 = .ok (.aload_n 0, 1) := by decide +kernel
theorem dX6_cut_19 : decode cX6_cut 19 = .ok (.iload_n 1, 1) := by decide +kernel
theorem dX6_cut_20 : decode cX6_cut 20 = .ok (.putfield 179, 3) := by decide +kernel
theorem dX6_cut_23 : decode cX6_cut 23 = .ok (.iconst 1, 1) := by decide +kernel
theorem dX6_cut_24 : decode cX6_cut 24 = .ok (.ireturn, 1) := by decide +kernel
theorem dX6_sense_0 : decode cX6_sense 0 = .ok (.aload_n 0, 1) := by decide +kernel
theorem dX6_sense_1 : decode cX6_sense 1 = .ok (.iconst 0, 1) := by decide +kernel
theorem dX6_sense_2 : decode cX6_sense 2 = .ok (.putfield 56, 3) := by decide +kernel
theorem dX6_sense_5 : decode cX6_sense 5 = .ok (.iload_n 1, 1) := by decide +kernel
theorem dX6_sense_6 : decode cX6_sense 6 = .ok (.ifCond .lt 8, 3) := by decide +kernel
theorem dX6_sense_9 : decode cX6_sense 9 = .ok (.iload_n 1, 1) := by decide +kernel
theorem dX6_sense_10 : decode cX6_sense 10 = .ok (.iconst 3, 1) := by decide +kernel
theorem dX6_sense_11 : decode cX6_sense 11 = .ok (.if_icmp .le 5, 3) := by decide +kernel
theorem dX6_sense_14 : decode cX6_sense 14 = .ok (.iconst 0, 1) := by decide +kernel
theorem dX6_sense_15 : decode cX6_sense 15 = .ok (.ireturn, 1) := by decide +kernel
theorem dX6_sense_16 : decode cX6_sense 16 = .ok (.aload_n 0, 1) := by decide +kernel
theorem dX6_sense_17 : decode cX6_sense 17 = .ok (.getfield 22, 3) := by decide +kernel
theorem dX6_sense_20 : decode cX6_sense 20 = .ok (.iload_n 1, 1) := by decide +kernel
theorem dX6_sense_21 : decode cX6_sense 21 = .ok (.iload_n 2, 1) := by decide +kernel
theorem dX6_sense_22 : decode cX6_sense 22 = .ok (.iastore, 1) := by decide +kernel
theorem dX6_sense_23 : decode cX6_sense 23 = .ok (.iconst 1, 1) := by decide +kernel
theorem dX6_sense_24 : decode cX6_sense 24 = .ok (.ireturn, 1) := by decide +kernel
theorem dX6_kept_0 : decode cX6_kept 0 = .ok (.iload_n 1, 1) := by decide +kernel
theorem dX6_kept_1 : decode cX6_kept 1 = .ok (.ifCond .lt 10, 3) := by decide +kernel
theorem dX6_kept_4 : decode cX6_kept 4 = .ok (.iload_n 1, 1) := by decide +kernel
theorem dX6_kept_5 : decode cX6_kept 5 = .ok (.sipush 164, 3) := by decide +kernel
theorem dX6_kept_8 : decode cX6_kept 8 = .ok (.if_icmp .lt 9, 3) := by decide +kernel
theorem dX6_kept_11 : decode cX6_kept 11 = .ok (.aload_n 0, 1) := by decide +kernel
theorem dX6_kept_12 : decode cX6_kept 12 = .ok (.iconst 1, 1) := by decide +kernel
theorem dX6_kept_13 : decode cX6_kept 13 = .ok (.invokevirtual 186, 3) := by decide +kernel
theorem dX6_kept_16 : decode cX6_kept 16 = .ok (.ireturn, 1) := by decide +kernel
theorem dX6_kept_17 : decode cX6_kept 17 = .ok (.aload_n 0, 1) := by decide +kernel
theorem dX6_kept_18 : decode cX6_kept 18 = .ok (.iconst 0, 1) := by decide +kernel
theorem dX6_kept_19 : decode cX6_kept 19 = .ok (.putfield 56, 3) := by decide +kernel
theorem dX6_kept_22 : decode cX6_kept 22 = .ok (.iload_n 2, 1) := by decide +kernel
theorem dX6_kept_23 : decode cX6_kept 23 = .ok (.ifCond .eq 12, 3) := by decide +kernel
theorem dX6_kept_26 : decode cX6_kept 26 = .ok (.aload_n 0, 1) := by decide +kernel
theorem dX6_kept_27 : decode cX6_kept 27 = .ok (.getfield 19, 3) := by decide +kernel
theorem dX6_kept_30 : decode cX6_kept 30 = .ok (.iload_n 1, 1) := by decide +kernel
theorem dX6_kept_31 : decode cX6_kept 31 = .ok (.iaload, 1) := by decide +kernel
theorem dX6_kept_32 : decode cX6_kept 32 = .ok (.goto 9, 3) := by decide +kernel
theorem dX6_kept_35 : decode cX6_kept 35 = .ok (.aload_n 0, 1) := by decide +kernel
theorem dX6_kept_36 : decode cX6_kept 36 = .ok (.getfield 16, 3) := by decide +kernel
theorem dX6_kept_39 : decode cX6_kept 39 = .ok (.iload_n 1, 1) := by decide +kernel
theorem dX6_kept_40 : decode cX6_kept 40 = .ok (.iaload, 1) := by decide +kernel
theorem dX6_kept_41 : decode cX6_kept 41 = .ok (.ireturn, 1) := by decide +kernel
theorem dX6_aired_0 : decode cX6_aired 0 = .ok (.aload_n 0, 1) := by decide +kernel
theorem dX6_aired_1 : decode cX6_aired 1 = .ok (.iconst 0, 1) := by decide +kernel
theorem dX6_aired_2 : decode cX6_aired 2 = .ok (.putfield 56, 3) := by decide +kernel
theorem dX6_aired_5 : decode cX6_aired 5 = .ok (.iload_n 1, 1) := by decide +kernel
theorem dX6_aired_6 : decode cX6_aired 6 = .ok (.ifCond .lt 26, 3) := by decide +kernel
theorem dX6_aired_9 : decode cX6_aired 9 = .ok (.iload_n 1, 1) := by decide +kernel
theorem dX6_aired_10 : decode cX6_aired 10 = .ok (.bipush 64, 2) := by decide +kernel
theorem dX6_aired_12 : decode cX6_aired 12 = .ok (.if_icmp .ge 20, 3) := by decide +kernel
theorem dX6_aired_15 : decode cX6_aired 15 = .ok (.iload_n 1, 1) := by decide +kernel
theorem dX6_aired_16 : decode cX6_aired 16 = .ok (.aload_n 0, 1) := by decide +kernel
theorem dX6_aired_17 : decode cX6_aired 17 = .ok (.getfield 130, 3) := by decide +kernel
theorem dX6_aired_20 : decode cX6_aired 20 = .ok (.if_icmp .ge 12, 3) := by decide +kernel
theorem dX6_aired_23 : decode cX6_aired 23 = .ok (.iload_n 2, 1) := by decide +kernel
theorem dX6_aired_24 : decode cX6_aired 24 = .ok (.ifCond .lt 8, 3) := by decide +kernel
theorem dX6_aired_27 : decode cX6_aired 27 = .ok (.iload_n 2, 1) := by decide +kernel
theorem dX6_aired_28 : decode cX6_aired 28 = .ok (.iconst 1, 1) := by decide +kernel
theorem dX6_aired_29 : decode cX6_aired 29 = .ok (.if_icmp .le 5, 3) := by decide +kernel
theorem dX6_aired_32 : decode cX6_aired 32 = .ok (.iconst (-1), 1) := by decide +kernel
theorem dX6_aired_33 : decode cX6_aired 33 = .ok (.ireturn, 1) := by decide +kernel
theorem dX6_aired_34 : decode cX6_aired 34 = .ok (.aload_n 0, 1) := by decide +kernel
theorem dX6_aired_35 : decode cX6_aired 35 = .ok (.getfield 130, 3) := by decide +kernel
theorem dX6_aired_38 : decode cX6_aired 38 = .ok (.iconst 1, 1) := by decide +kernel
theorem dX6_aired_39 : decode cX6_aired 39 = .ok (.isub, 1) := by decide +kernel
theorem dX6_aired_40 : decode cX6_aired 40 = .ok (.iload_n 1, 1) := by decide +kernel
theorem dX6_aired_41 : decode cX6_aired 41 = .ok (.isub, 1) := by decide +kernel
theorem dX6_aired_42 : decode cX6_aired 42 = .ok (.bipush 64, 2) := by decide +kernel
theorem dX6_aired_44 : decode cX6_aired 44 = .ok (.irem, 1) := by decide +kernel
theorem dX6_aired_45 : decode cX6_aired 45 = .ok (.istore_n 3, 1) := by decide +kernel
theorem dX6_aired_46 : decode cX6_aired 46 = .ok (.iload_n 2, 1) := by decide +kernel
theorem dX6_aired_47 : decode cX6_aired 47 = .ok (.ifCond .ne 12, 3) := by decide +kernel
theorem dX6_aired_50 : decode cX6_aired 50 = .ok (.aload_n 0, 1) := by decide +kernel
theorem dX6_aired_51 : decode cX6_aired 51 = .ok (.getfield 44, 3) := by decide +kernel
theorem dX6_aired_54 : decode cX6_aired 54 = .ok (.iload_n 3, 1) := by decide +kernel
theorem dX6_aired_55 : decode cX6_aired 55 = .ok (.iaload, 1) := by decide +kernel
theorem dX6_aired_56 : decode cX6_aired 56 = .ok (.goto 9, 3) := by decide +kernel
theorem dX6_aired_59 : decode cX6_aired 59 = .ok (.aload_n 0, 1) := by decide +kernel
theorem dX6_aired_60 : decode cX6_aired 60 = .ok (.getfield 47, 3) := by decide +kernel
theorem dX6_aired_63 : decode cX6_aired 63 = .ok (.iload_n 3, 1) := by decide +kernel
theorem dX6_aired_64 : decode cX6_aired 64 = .ok (.iaload, 1) := by decide +kernel
theorem dX6_aired_65 : decode cX6_aired 65 = .ok (.ireturn, 1) := by decide +kernel
theorem dX6_heard_0 : decode cX6_heard 0 = .ok (.iload_n 1, 1) := by decide +kernel
theorem dX6_heard_1 : decode cX6_heard 1 = .ok (.ifCond .lt 16, 3) := by decide +kernel
theorem dX6_heard_4 : decode cX6_heard 4 = .ok (.aload_n 0, 1) := by decide +kernel
theorem dX6_heard_5 : decode cX6_heard 5 = .ok (.getfield 50, 3) := by decide +kernel
theorem dX6_heard_8 : decode cX6_heard 8 = .ok (.iload_n 1, 1) := by decide +kernel
theorem dX6_heard_9 : decode cX6_heard 9 = .ok (.bipush 64, 2) := by decide +kernel
theorem dX6_heard_11 : decode cX6_heard 11 = .ok (.irem, 1) := by decide +kernel
theorem dX6_heard_12 : decode cX6_heard 12 = .ok (.iaload, 1) := by decide +kernel
theorem dX6_heard_13 : decode cX6_heard 13 = .ok (.iload_n 1, 1) := by decide +kernel
theorem dX6_heard_14 : decode cX6_heard 14 = .ok (.if_icmp .eq 9, 3) := by decide +kernel
theorem dX6_heard_17 : decode cX6_heard 17 = .ok (.aload_n 0, 1) := by decide +kernel
theorem dX6_heard_18 : decode cX6_heard 18 = .ok (.iconst 1, 1) := by decide +kernel
theorem dX6_heard_19 : decode cX6_heard 19 = .ok (.invokevirtual 186, 3) := by decide +kernel
theorem dX6_heard_22 : decode cX6_heard 22 = .ok (.ireturn, 1) := by decide +kernel
theorem dX6_heard_23 : decode cX6_heard 23 = .ok (.aload_n 0, 1) := by decide +kernel
theorem dX6_heard_24 : decode cX6_heard 24 = .ok (.iconst 0, 1) := by decide +kernel
theorem dX6_heard_25 : decode cX6_heard 25 = .ok (.putfield 56, 3) := by decide +kernel
theorem dX6_heard_28 : decode cX6_heard 28 = .ok (.aload_n 0, 1) := by decide +kernel
theorem dX6_heard_29 : decode cX6_heard 29 = .ok (.getfield 53, 3) := by decide +kernel
theorem dX6_heard_32 : decode cX6_heard 32 = .ok (.iload_n 1, 1) := by decide +kernel
theorem dX6_heard_33 : decode cX6_heard 33 = .ok (.bipush 64, 2) := by decide +kernel
theorem dX6_heard_35 : decode cX6_heard 35 = .ok (.irem, 1) := by decide +kernel
theorem dX6_heard_36 : decode cX6_heard 36 = .ok (.iaload, 1) := by decide +kernel
theorem dX6_heard_37 : decode cX6_heard 37 = .ok (.ireturn, 1) := by decide +kernel
theorem dX6_state_0 : decode cX6_state 0 = .ok (.aload_n 0, 1) := by decide +kernel
theorem dX6_state_1 : decode cX6_state 1 = .ok (.iconst 0, 1) := by decide +kernel
theorem dX6_state_2 : decode cX6_state 2 = .ok (.putfield 56, 3) := by decide +kernel
theorem dX6_state_5 : decode cX6_state 5 = .ok (.aload_n 0, 1) := by decide +kernel
theorem dX6_state_6 : decode cX6_state 6 = .ok (.getfield 93, 3) := by decide +kernel
theorem dX6_state_9 : decode cX6_state 9 = .ok (.iconst 3, 1) := by decide +kernel
theorem dX6_state_10 : decode cX6_state 10 = .ok (.if_icmp .eq 11, 3) := by decide +kernel
theorem dX6_state_13 : decode cX6_state 13 = .ok (.aload_n 0, 1) := by decide +kernel
theorem dX6_state_14 : decode cX6_state 14 = .ok (.getfield 93, 3) := by decide +kernel
theorem dX6_state_17 : decode cX6_state 17 = .ok (.iconst 4, 1) := by decide +kernel
theorem dX6_state_18 : decode cX6_state 18 = .ok (.if_icmp .ne 7, 3) := by decide +kernel
theorem dX6_state_21 : decode cX6_state 21 = .ok (.iconst 1, 1) := by decide +kernel
theorem dX6_state_22 : decode cX6_state 22 = .ok (.goto 4, 3) := by decide +kernel
theorem dX6_state_25 : decode cX6_state 25 = .ok (.iconst 0, 1) := by decide +kernel
theorem dX6_state_26 : decode cX6_state 26 = .ok (.istore_n 2, 1) := by decide +kernel
theorem dX6_state_27 : decode cX6_state 27 = .ok (.iload_n 1, 1) := by decide +kernel
theorem dX6_state_28 : decode cX6_state 28 = .ok (.tableswitch 134 0 9 #[56, 61, 66, 71, 84, 97, 114, 119, 124, 129], 56) := by decide +kernel
theorem dX6_state_84 : decode cX6_state 84 = .ok (.aload_n 0, 1) := by decide +kernel
theorem dX6_state_85 : decode cX6_state 85 = .ok (.getfield 93, 3) := by decide +kernel
theorem dX6_state_88 : decode cX6_state 88 = .ok (.ireturn, 1) := by decide +kernel
theorem dX6_state_89 : decode cX6_state 89 = .ok (.aload_n 0, 1) := by decide +kernel
theorem dX6_state_90 : decode cX6_state 90 = .ok (.getfield 111, 3) := by decide +kernel
theorem dX6_state_93 : decode cX6_state 93 = .ok (.ireturn, 1) := by decide +kernel
theorem dX6_state_94 : decode cX6_state 94 = .ok (.aload_n 0, 1) := by decide +kernel
theorem dX6_state_95 : decode cX6_state 95 = .ok (.getfield 155, 3) := by decide +kernel
theorem dX6_state_98 : decode cX6_state 98 = .ok (.ireturn, 1) := by decide +kernel
theorem dX6_state_99 : decode cX6_state 99 = .ok (.iload_n 2, 1) := by decide +kernel
theorem dX6_state_100 : decode cX6_state 100 = .ok (.ifCond .eq 10, 3) := by decide +kernel
theorem dX6_state_103 : decode cX6_state 103 = .ok (.aload_n 0, 1) := by decide +kernel
theorem dX6_state_104 : decode cX6_state 104 = .ok (.getfield 96, 3) := by decide +kernel
theorem dX6_state_107 : decode cX6_state 107 = .ok (.goto 4, 3) := by decide +kernel
theorem dX6_state_110 : decode cX6_state 110 = .ok (.iconst 0, 1) := by decide +kernel
theorem dX6_state_111 : decode cX6_state 111 = .ok (.ireturn, 1) := by decide +kernel
theorem dX6_state_112 : decode cX6_state 112 = .ok (.iload_n 2, 1) := by decide +kernel
theorem dX6_state_113 : decode cX6_state 113 = .ok (.ifCond .eq 10, 3) := by decide +kernel
theorem dX6_state_116 : decode cX6_state 116 = .ok (.aload_n 0, 1) := by decide +kernel
theorem dX6_state_117 : decode cX6_state 117 = .ok (.getfield 84, 3) := by decide +kernel
theorem dX6_state_120 : decode cX6_state 120 = .ok (.goto 4, 3) := by decide +kernel
theorem dX6_state_123 : decode cX6_state 123 = .ok (.iconst 0, 1) := by decide +kernel
theorem dX6_state_124 : decode cX6_state 124 = .ok (.ireturn, 1) := by decide +kernel
theorem dX6_state_125 : decode cX6_state 125 = .ok (.aload_n 0, 1) := by decide +kernel
theorem dX6_state_126 : decode cX6_state 126 = .ok (.getfield 93, 3) := by decide +kernel
theorem dX6_state_129 : decode cX6_state 129 = .ok (.iconst 3, 1) := by decide +kernel
theorem dX6_state_130 : decode cX6_state 130 = .ok (.if_icmp .ne 10, 3) := by decide +kernel
theorem dX6_state_133 : decode cX6_state 133 = .ok (.aload_n 0, 1) := by decide +kernel
theorem dX6_state_134 : decode cX6_state 134 = .ok (.getfield 102, 3) := by decide +kernel
theorem dX6_state_137 : decode cX6_state 137 = .ok (.goto 4, 3) := by decide +kernel
theorem dX6_state_140 : decode cX6_state 140 = .ok (.iconst 0, 1) := by decide +kernel
theorem dX6_state_141 : decode cX6_state 141 = .ok (.ireturn, 1) := by decide +kernel
theorem dX6_state_142 : decode cX6_state 142 = .ok (.aload_n 0, 1) := by decide +kernel
theorem dX6_state_143 : decode cX6_state 143 = .ok (.getfield 31, 3) := by decide +kernel
theorem dX6_state_146 : decode cX6_state 146 = .ok (.ireturn, 1) := by decide +kernel
theorem dX6_state_147 : decode cX6_state 147 = .ok (.aload_n 0, 1) := by decide +kernel
theorem dX6_state_148 : decode cX6_state 148 = .ok (.getfield 90, 3) := by decide +kernel
theorem dX6_state_151 : decode cX6_state 151 = .ok (.ireturn, 1) := by decide +kernel
theorem dX6_state_152 : decode cX6_state 152 = .ok (.aload_n 0, 1) := by decide +kernel
theorem dX6_state_153 : decode cX6_state 153 = .ok (.getfield 158, 3) := by decide +kernel
theorem dX6_state_156 : decode cX6_state 156 = .ok (.ireturn, 1) := by decide +kernel
theorem dX6_state_157 : decode cX6_state 157 = .ok (.aload_n 0, 1) := by decide +kernel
theorem dX6_state_158 : decode cX6_state 158 = .ok (.getfield 130, 3) := by decide +kernel
theorem dX6_state_161 : decode cX6_state 161 = .ok (.ireturn, 1) := by decide +kernel
theorem dX6_state_162 : decode cX6_state 162 = .ok (.iconst (-1), 1) := by decide +kernel
theorem dX6_state_163 : decode cX6_state 163 = .ok (.ireturn, 1) := by decide +kernel
theorem dX6_task_0 : decode cX6_task 0 = .ok (.aload_n 0, 1) := by decide +kernel
theorem dX6_task_1 : decode cX6_task 1 = .ok (.iconst 0, 1) := by decide +kernel
theorem dX6_task_2 : decode cX6_task 2 = .ok (.putfield 56, 3) := by decide +kernel
theorem dX6_task_5 : decode cX6_task 5 = .ok (.iload_n 1, 1) := by decide +kernel
theorem dX6_task_6 : decode cX6_task 6 = .ok (.invokestatic 63, 3) := by decide +kernel
theorem dX6_task_9 : decode cX6_task 9 = .ok (.ifCond .eq 12, 3) := by decide +kernel
theorem dX6_task_12 : decode cX6_task 12 = .ok (.iload_n 2, 1) := by decide +kernel
theorem dX6_task_13 : decode cX6_task 13 = .ok (.ifCond .lt 8, 3) := by decide +kernel
theorem dX6_task_16 : decode cX6_task 16 = .ok (.iload_n 2, 1) := by decide +kernel
theorem dX6_task_17 : decode cX6_task 17 = .ok (.iconst 2, 1) := by decide +kernel
theorem dX6_task_18 : decode cX6_task 18 = .ok (.if_icmp .le 5, 3) := by decide +kernel
theorem dX6_task_21 : decode cX6_task 21 = .ok (.iconst (-1), 1) := by decide +kernel
theorem dX6_task_22 : decode cX6_task 22 = .ok (.ireturn, 1) := by decide +kernel
theorem dX6_task_23 : decode cX6_task 23 = .ok (.iload_n 2, 1) := by decide +kernel
theorem dX6_task_24 : decode cX6_task 24 = .ok (.ifCond .ne 12, 3) := by decide +kernel
theorem dX6_task_27 : decode cX6_task 27 = .ok (.aload_n 0, 1) := by decide +kernel
theorem dX6_task_28 : decode cX6_task 28 = .ok (.getfield 25, 3) := by decide +kernel
theorem dX6_task_31 : decode cX6_task 31 = .ok (.iload_n 1, 1) := by decide +kernel
theorem dX6_task_32 : decode cX6_task 32 = .ok (.iaload, 1) := by decide +kernel
theorem dX6_task_33 : decode cX6_task 33 = .ok (.goto 23, 3) := by decide +kernel
theorem dX6_task_36 : decode cX6_task 36 = .ok (.iload_n 2, 1) := by decide +kernel
theorem dX6_task_37 : decode cX6_task 37 = .ok (.iconst 1, 1) := by decide +kernel
theorem dX6_task_38 : decode cX6_task 38 = .ok (.if_icmp .ne 12, 3) := by decide +kernel
theorem dX6_task_41 : decode cX6_task 41 = .ok (.aload_n 0, 1) := by decide +kernel
theorem dX6_task_42 : decode cX6_task 42 = .ok (.getfield 28, 3) := by decide +kernel
theorem dX6_task_45 : decode cX6_task 45 = .ok (.iload_n 1, 1) := by decide +kernel
theorem dX6_task_46 : decode cX6_task 46 = .ok (.iaload, 1) := by decide +kernel
theorem dX6_task_47 : decode cX6_task 47 = .ok (.goto 9, 3) := by decide +kernel
theorem dX6_task_50 : decode cX6_task 50 = .ok (.aload_n 0, 1) := by decide +kernel
theorem dX6_task_51 : decode cX6_task 51 = .ok (.getfield 13, 3) := by decide +kernel
theorem dX6_task_54 : decode cX6_task 54 = .ok (.iload_n 1, 1) := by decide +kernel
theorem dX6_task_55 : decode cX6_task 55 = .ok (.iaload, 1) := by decide +kernel
theorem dX6_task_56 : decode cX6_task 56 = .ok (.ireturn, 1) := by decide +kernel
theorem dX6_register_0 : decode cX6_register 0 = .ok (.aload_n 0, 1) := by decide +kernel
theorem dX6_register_1 : decode cX6_register 1 = .ok (.iconst 0, 1) := by decide +kernel
theorem dX6_register_2 : decode cX6_register 2 = .ok (.putfield 56, 3) := by decide +kernel
theorem dX6_register_5 : decode cX6_register 5 = .ok (.aload_n 0, 1) := by decide +kernel
theorem dX6_register_6 : decode cX6_register 6 = .ok (.getfield 93, 3) := by decide +kernel
theorem dX6_register_9 : decode cX6_register 9 = .ok (.iconst 3, 1) := by decide +kernel
theorem dX6_register_10 : decode cX6_register 10 = .ok (.if_icmp .eq 11, 3) := by decide +kernel
theorem dX6_register_13 : decode cX6_register 13 = .ok (.aload_n 0, 1) := by decide +kernel
theorem dX6_register_14 : decode cX6_register 14 = .ok (.getfield 93, 3) := by decide +kernel
theorem dX6_register_17 : decode cX6_register 17 = .ok (.iconst 4, 1) := by decide +kernel
theorem dX6_register_18 : decode cX6_register 18 = .ok (.if_icmp .ne 22, 3) := by decide +kernel
theorem dX6_register_21 : decode cX6_register 21 = .ok (.iload_n 1, 1) := by decide +kernel
theorem dX6_register_22 : decode cX6_register 22 = .ok (.ifCond .lt 18, 3) := by decide +kernel
theorem dX6_register_25 : decode cX6_register 25 = .ok (.iload_n 1, 1) := by decide +kernel
theorem dX6_register_26 : decode cX6_register 26 = .ok (.bipush 8, 2) := by decide +kernel
theorem dX6_register_28 : decode cX6_register 28 = .ok (.if_icmp .ge 12, 3) := by decide +kernel
theorem dX6_register_31 : decode cX6_register 31 = .ok (.aload_n 0, 1) := by decide +kernel
theorem dX6_register_32 : decode cX6_register 32 = .ok (.getfield 35, 3) := by decide +kernel
theorem dX6_register_35 : decode cX6_register 35 = .ok (.iload_n 1, 1) := by decide +kernel
theorem dX6_register_36 : decode cX6_register 36 = .ok (.iaload, 1) := by decide +kernel
theorem dX6_register_37 : decode cX6_register 37 = .ok (.goto 4, 3) := by decide +kernel
theorem dX6_register_40 : decode cX6_register 40 = .ok (.iconst 0, 1) := by decide +kernel
theorem dX6_register_41 : decode cX6_register 41 = .ok (.ireturn, 1) := by decide +kernel
