theorem d_L_add_28 : decode b_L_add 28 = .ok (.ireturn, 1) := by decide +kernel
theorem d_X_add_0 : decode b_X_add 0 = .ok (.aload_n 0, 1) := by decide +kernel
theorem d_X_add_1 : decode b_X_add 1 = .ok (.iload_n 1, 1) := by decide +kernel
theorem d_X_add_2 : decode b_X_add 2 = .ok (.invokevirtual 37, 3) := by decide +kernel
theorem d_X_add_5 : decode b_X_add 5 = .ok (.astore 7, 2) := by decide +kernel
theorem d_X_add_7 : decode b_X_add 7 = .ok (.aload 7, 2) := by decide +kernel
theorem d_X_add_9 : decode b_X_add 9 = .ok (.ifnull 24, 3) := by decide +kernel
theorem d_X_add_12 : decode b_X_add 12 = .ok (.iload_n 2, 1) := by decide +kernel
theorem d_X_add_13 : decode b_X_add 13 = .ok (.iconst 0, 1) := by decide +kernel
theorem d_X_add_14 : decode b_X_add 14 = .ok (.iconst 3, 1) := by decide +kernel
theorem d_X_add_15 : decode b_X_add 15 = .ok (.invokestatic 41, 3) := by decide +kernel
theorem d_X_add_18 : decode b_X_add 18 = .ok (.ifCond .eq 15, 3) := by decide +kernel
theorem d_X_add_21 : decode b_X_add 21 = .ok (.iload 6, 2) := by decide +kernel
theorem d_X_add_23 : decode b_X_add 23 = .ok (.iconst 0, 1) := by decide +kernel
theorem d_X_add_24 : decode b_X_add 24 = .ok (.sipush 1000, 3) := by decide +kernel
theorem d_X_add_27 : decode b_X_add 27 = .ok (.invokestatic 41, 3) := by decide +kernel
theorem d_X_add_30 : decode b_X_add 30 = .ok (.ifCond .ne 13, 3) := by decide +kernel
theorem d_X_add_33 : decode b_X_add 33 = .ok (.new 45, 3) := by decide +kernel
theorem d_X_add_36 : decode b_X_add 36 = .ok (.dup, 1) := by decide +kernel
theorem d_X_add_37 : decode b_X_add 37 = .ok (.ldc 47, 2) := by decide +kernel
theorem d_X_add_39 : decode b_X_add 39 = .ok (.invokespecial 49, 3) := by decide +kernel
theorem d_X_add_42 : decode b_X_add 42 = .ok (.athrow, 1) := by decide +kernel
theorem d_X_add_43 : decode b_X_add 43 = .ok (.iload_n 3, 1) := by decide +kernel
theorem d_X_add_44 : decode b_X_add 44 = .ok (.iconst (-1), 1) := by decide +kernel
theorem d_X_add_45 : decode b_X_add 45 = .ok (.if_icmp .eq 21, 3) := by decide +kernel
theorem d_X_add_48 : decode b_X_add 48 = .ok (.aload_n 0, 1) := by decide +kernel
theorem d_X_add_49 : decode b_X_add 49 = .ok (.iload_n 3, 1) := by decide +kernel
theorem d_X_add_50 : decode b_X_add 50 = .ok (.invokevirtual 52, 3) := by decide +kernel
theorem d_X_add_53 : decode b_X_add 53 = .ok (.ifnonnull 13, 3) := by decide +kernel
theorem d_X_add_56 : decode b_X_add 56 = .ok (.new 45, 3) := by decide +kernel
theorem d_X_add_59 : decode b_X_add 59 = .ok (.dup, 1) := by decide +kernel
theorem d_X_add_60 : decode b_X_add 60 = .ok (.ldc 56, 2) := by decide +kernel
theorem d_X_add_62 : decode b_X_add 62 = .ok (.invokespecial 49, 3) := by decide +kernel
theorem d_X_add_65 : decode b_X_add 65 = .ok (.athrow, 1) := by decide +kernel
theorem d_X_add_66 : decode b_X_add 66 = .ok (.lload 4, 2) := by decide +kernel
theorem d_X_add_68 : decode b_X_add 68 = .ok (.lconst 0, 1) := by decide +kernel
theorem d_X_add_69 : decode b_X_add 69 = .ok (.lcmp, 1) := by decide +kernel
theorem d_X_add_70 : decode b_X_add 70 = .ok (.ifCond .ne 7, 3) := by decide +kernel
theorem d_X_add_73 : decode b_X_add 73 = .ok (.iconst (-1), 1) := by decide +kernel
theorem d_X_add_74 : decode b_X_add 74 = .ok (.goto 11, 3) := by decide +kernel
theorem d_X_add_77 : decode b_X_add 77 = .ok (.aload_n 0, 1) := by decide +kernel
theorem d_X_add_78 : decode b_X_add 78 = .ok (.aload 7, 2) := by decide +kernel
theorem d_X_add_80 : decode b_X_add 80 = .ok (.lload 4, 2) := by decide +kernel
theorem d_X_add_82 : decode b_X_add 82 = .ok (.invokevirtual 58, 3) := by decide +kernel
theorem d_X_add_85 : decode b_X_add 85 = .ok (.istore 8, 2) := by decide +kernel
theorem d_X_add_87 : decode b_X_add 87 = .ok (.iload 8, 2) := by decide +kernel
theorem d_X_add_89 : decode b_X_add 89 = .ok (.iconst (-1), 1) := by decide +kernel
theorem d_X_add_90 : decode b_X_add 90 = .ok (.if_icmp .eq 6, 3) := by decide +kernel
theorem d_X_add_93 : decode b_X_add 93 = .ok (.iload 8, 2) := by decide +kernel
theorem d_X_add_95 : decode b_X_add 95 = .ok (.ireturn, 1) := by decide +kernel
theorem d_X_add_96 : decode b_X_add 96 = .ok (.aload_n 0, 1) := by decide +kernel
theorem d_X_add_97 : decode b_X_add 97 = .ok (.invokevirtual 62, 3) := by decide +kernel
theorem d_X_add_100 : decode b_X_add 100 = .ok (.bipush 64, 2) := by decide +kernel
theorem d_X_add_102 : decode b_X_add 102 = .ok (.if_icmp .ge 16, 3) := by decide +kernel
theorem d_X_add_105 : decode b_X_add 105 = .ok (.aload_n 0, 1) := by decide +kernel
theorem d_X_add_106 : decode b_X_add 106 = .ok (.getfield 24, 3) := by decide +kernel
theorem d_X_add_109 : decode b_X_add 109 = .ok (.invokevirtual 66, 3) := by decide +kernel
theorem d_X_add_112 : decode b_X_add 112 = .ok (.sipush 400, 3) := by decide +kernel
theorem d_X_add_115 : decode b_X_add 115 = .ok (.if_icmp .lt 13, 3) := by decide +kernel
theorem d_X_add_118 : decode b_X_add 118 = .ok (.new 69, 3) := by decide +kernel
theorem d_X_add_121 : decode b_X_add 121 = .ok (.dup, 1) := by decide +kernel
theorem d_X_add_122 : decode b_X_add 122 = .ok (.ldc 71, 2) := by decide +kernel
theorem d_X_add_124 : decode b_X_add 124 = .ok (.invokespecial 73, 3) := by decide +kernel
theorem d_X_add_127 : decode b_X_add 127 = .ok (.athrow, 1) := by decide +kernel
theorem d_X_add_128 : decode b_X_add 128 = .ok (.aload_n 0, 1) := by decide +kernel
theorem d_X_add_129 : decode b_X_add 129 = .ok (.getfield 24, 3) := by decide +kernel
theorem d_X_add_132 : decode b_X_add 132 = .ok (.invokevirtual 66, 3) := by decide +kernel
theorem d_X_add_135 : decode b_X_add 135 = .ok (.istore 9, 2) := by decide +kernel
theorem d_X_add_137 : decode b_X_add 137 = .ok (.aload_n 0, 1) := by decide +kernel
theorem d_X_add_138 : decode b_X_add 138 = .ok (.getfield 24, 3) := by decide +kernel
theorem d_X_add_141 : decode b_X_add 141 = .ok (.new 74, 3) := by decide +kernel
theorem d_X_add_144 : decode b_X_add 144 = .ok (.dup, 1) := by decide +kernel
theorem d_X_add_145 : decode b_X_add 145 = .ok (.iload 9, 2) := by decide +kernel
theorem d_X_add_147 : decode b_X_add 147 = .ok (.aload 7, 2) := by decide +kernel
theorem d_X_add_149 : decode b_X_add 149 = .ok (.iload_n 2, 1) := by decide +kernel
theorem d_X_add_150 : decode b_X_add 150 = .ok (.aload_n 0, 1) := by decide +kernel
theorem d_X_add_151 : decode b_X_add 151 = .ok (.iload_n 3, 1) := by decide +kernel
theorem d_X_add_152 : decode b_X_add 152 = .ok (.invokevirtual 52, 3) := by decide +kernel
theorem d_X_add_155 : decode b_X_add 155 = .ok (.lload 4, 2) := by decide +kernel
theorem d_X_add_157 : decode b_X_add 157 = .ok (.aload_n 0, 1) := by decide +kernel
theorem d_X_add_158 : decode b_X_add 158 = .ok (.getfield 28, 3) := by decide +kernel
theorem d_X_add_161 : decode b_X_add 161 = .ok (.iload 6, 2) := by decide +kernel
theorem d_X_add_163 : decode b_X_add 163 = .ok (.iadd, 1) := by decide +kernel
theorem d_X_add_164 : decode b_X_add 164 = .ok (.invokespecial 76, 3) := by decide +kernel
theorem d_X_add_167 : decode b_X_add 167 = .ok (.invokevirtual 79, 3) := by decide +kernel
theorem d_X_add_170 : decode b_X_add 170 = .ok (.pop, 1) := by decide +kernel
theorem d_X_add_171 : decode b_X_add 171 = .ok (.iload 9, 2) := by decide +kernel
theorem d_X_add_173 : decode b_X_add 173 = .ok (.ireturn, 1) := by decide +kernel
theorem d_X_numberUnder_0 : decode b_X_numberUnder 0 = .ok (.aload_n 0, 1) := by decide +kernel
theorem d_X_numberUnder_1 : decode b_X_numberUnder 1 = .ok (.getfield 24, 3) := by decide +kernel
theorem d_X_numberUnder_4 : decode b_X_numberUnder 4 = .ok (.invokevirtual 66, 3) := by decide +kernel
theorem d_X_numberUnder_7 : decode b_X_numberUnder 7 = .ok (.iconst 1, 1) := by decide +kernel
theorem d_X_numberUnder_8 : decode b_X_numberUnder 8 = .ok (.isub, 1) := by decide +kernel
theorem d_X_numberUnder_9 : decode b_X_numberUnder 9 = .ok (.istore 4, 2) := by decide +kernel
theorem d_X_numberUnder_11 : decode b_X_numberUnder 11 = .ok (.iload 4, 2) := by decide +kernel
theorem d_X_numberUnder_13 : decode b_X_numberUnder 13 = .ok (.ifCond .lt 57, 3) := by decide +kernel
theorem d_X_numberUnder_16 : decode b_X_numberUnder 16 = .ok (.aload_n 0, 1) := by decide +kernel
theorem d_X_numberUnder_17 : decode b_X_numberUnder 17 = .ok (.getfield 24, 3) := by decide +kernel
theorem d_X_numberUnder_20 : decode b_X_numberUnder 20 = .ok (.iload 4, 2) := by decide +kernel
theorem d_X_numberUnder_22 : decode b_X_numberUnder 22 = .ok (.invokevirtual 140, 3) := by decide +kernel
theorem d_X_numberUnder_25 : decode b_X_numberUnder 25 = .ok (.checkcast 74, 3) := by decide +kernel
theorem d_X_numberUnder_28 : decode b_X_numberUnder 28 = .ok (.astore 5, 2) := by decide +kernel
theorem d_X_numberUnder_30 : decode b_X_numberUnder 30 = .ok (.aload 5, 2) := by decide +kernel
theorem d_X_numberUnder_32 : decode b_X_numberUnder 32 = .ok (.getfield 105, 3) := by decide +kernel
theorem d_X_numberUnder_35 : decode b_X_numberUnder 35 = .ok (.aload_n 1, 1) := by decide +kernel
theorem d_X_numberUnder_36 : decode b_X_numberUnder 36 = .ok (.if_acmp .ne 28, 3) := by decide +kernel
theorem d_X_numberUnder_39 : decode b_X_numberUnder 39 = .ok (.aload 5, 2) := by decide +kernel
theorem d_X_numberUnder_41 : decode b_X_numberUnder 41 = .ok (.getfield 203, 3) := by decide +kernel
theorem d_X_numberUnder_44 : decode b_X_numberUnder 44 = .ok (.lload_n 2, 1) := by decide +kernel
theorem d_X_numberUnder_45 : decode b_X_numberUnder 45 = .ok (.lcmp, 1) := by decide +kernel
theorem d_X_numberUnder_46 : decode b_X_numberUnder 46 = .ok (.ifCond .ne 18, 3) := by decide +kernel
theorem d_X_numberUnder_49 : decode b_X_numberUnder 49 = .ok (.aload 5, 2) := by decide +kernel
theorem d_X_numberUnder_51 : decode b_X_numberUnder 51 = .ok (.aload_n 0, 1) := by decide +kernel
theorem d_X_numberUnder_52 : decode b_X_numberUnder 52 = .ok (.getfield 28, 3) := by decide +kernel
theorem d_X_numberUnder_55 : decode b_X_numberUnder 55 = .ok (.invokevirtual 207, 3) := by decide +kernel
theorem d_X_numberUnder_58 : decode b_X_numberUnder 58 = .ok (.ifCond .eq 6, 3) := by decide +kernel
theorem d_X_numberUnder_61 : decode b_X_numberUnder 61 = .ok (.iload 4, 2) := by decide +kernel
theorem d_X_numberUnder_63 : decode b_X_numberUnder 63 = .ok (.ireturn, 1) := by decide +kernel
theorem d_X_numberUnder_64 : decode b_X_numberUnder 64 = .ok (.iinc 4 (-1), 3) := by decide +kernel
theorem d_X_numberUnder_67 : decode b_X_numberUnder 67 = .ok (.goto (-56), 3) := by decide +kernel
theorem d_X_numberUnder_70 : decode b_X_numberUnder 70 = .ok (.iconst (-1), 1) := by decide +kernel
theorem d_X_numberUnder_71 : decode b_X_numberUnder 71 = .ok (.ireturn, 1) := by decide +kernel
theorem d_T_holdsKey_0 : decode b_T_holdsKey 0 = .ok (.aload_n 0, 1) := by decide +kernel
theorem d_T_holdsKey_1 : decode b_T_holdsKey 1 = .ok (.invokevirtual 63, 3) := by decide +kernel
theorem d_T_holdsKey_4 : decode b_T_holdsKey 4 = .ok (.ifCond .ne 27, 3) := by decide +kernel
theorem d_T_holdsKey_7 : decode b_T_holdsKey 7 = .ok (.aload_n 0, 1) := by decide +kernel
theorem d_T_holdsKey_8 : decode b_T_holdsKey 8 = .ok (.getfield 9, 3) := by decide +kernel
theorem d_T_holdsKey_11 : decode b_T_holdsKey 11 = .ok (.iconst 2, 1) := by decide +kernel
theorem d_T_holdsKey_12 : decode b_T_holdsKey 12 = .ok (.if_icmp .ne 23, 3) := by decide +kernel
theorem d_T_holdsKey_15 : decode b_T_holdsKey 15 = .ok (.iload_n 1, 1) := by decide +kernel
theorem d_T_holdsKey_16 : decode b_T_holdsKey 16 = .ok (.aload_n 0, 1) := by decide +kernel
theorem d_T_holdsKey_17 : decode b_T_holdsKey 17 = .ok (.getfield 27, 3) := by decide +kernel
theorem d_T_holdsKey_20 : decode b_T_holdsKey 20 = .ok (.isub, 1) := by decide +kernel
theorem d_T_holdsKey_21 : decode b_T_holdsKey 21 = .ok (.aload_n 0, 1) := by decide +kernel
theorem d_T_holdsKey_22 : decode b_T_holdsKey 22 = .ok (.getfield 33, 3) := by decide +kernel
theorem d_T_holdsKey_25 : decode b_T_holdsKey 25 = .ok (.getfield 67, 3) := by decide +kernel
theorem d_T_holdsKey_28 : decode b_T_holdsKey 28 = .ok (.if_icmp .gt 7, 3) := by decide +kernel
theorem d_T_holdsKey_31 : decode b_T_holdsKey 31 = .ok (.iconst 1, 1) := by decide +kernel
theorem d_T_holdsKey_32 : decode b_T_holdsKey 32 = .ok (.goto 4, 3) := by decide +kernel
theorem d_T_holdsKey_35 : decode b_T_holdsKey 35 = .ok (.iconst 0, 1) := by decide +kernel
theorem d_T_holdsKey_36 : decode b_T_holdsKey 36 = .ok (.ireturn, 1) := by decide +kernel
theorem d_T_init_0 : decode b_T_init 0 = .ok (.aload_n 0, 1) := by decide +kernel
theorem d_T_init_1 : decode b_T_init 1 = .ok (.invokespecial 3, 3) := by decide +kernel
theorem d_T_init_4 : decode b_T_init 4 = .ok (.aload_n 0, 1) := by decide +kernel
theorem d_T_init_5 : decode b_T_init 5 = .ok (.iconst 0, 1) := by decide +kernel
theorem d_T_init_6 : decode b_T_init 6 = .ok (.putfield 9, 3) := by decide +kernel
theorem d_T_init_9 : decode b_T_init 9 = .ok (.aload_n 0, 1) := by decide +kernel
theorem d_T_init_10 : decode b_T_init 10 = .ok (.iconst 0, 1) := by decide +kernel
theorem d_T_init_11 : decode b_T_init 11 = .ok (.putfield 15, 3) := by decide +kernel
theorem d_T_init_14 : decode b_T_init 14 = .ok (.aload_n 0, 1) := by decide +kernel
theorem d_T_init_15 : decode b_T_init 15 = .ok (.iconst (-1), 1) := by decide +kernel
theorem d_T_init_16 : decode b_T_init 16 = .ok (.putfield 18, 3) := by decide +kernel
theorem d_T_init_19 : decode b_T_init 19 = .ok (.aload_n 0, 1) := by decide +kernel
theorem d_T_init_20 : decode b_T_init 20 = .ok (.iconst (-1), 1) := by decide +kernel
theorem d_T_init_21 : decode b_T_init 21 = .ok (.putfield 21, 3) := by decide +kernel
theorem d_T_init_24 : decode b_T_init 24 = .ok (.aload_n 0, 1) := by decide +kernel
theorem d_T_init_25 : decode b_T_init 25 = .ok (.iconst (-1), 1) := by decide +kernel
theorem d_T_init_26 : decode b_T_init 26 = .ok (.putfield 24, 3) := by decide +kernel
theorem d_T_init_29 : decode b_T_init 29 = .ok (.aload_n 0, 1) := by decide +kernel
theorem d_T_init_30 : decode b_T_init 30 = .ok (.iconst (-1), 1) := by decide +kernel
theorem d_T_init_31 : decode b_T_init 31 = .ok (.putfield 27, 3) := by decide +kernel
theorem d_T_init_34 : decode b_T_init 34 = .ok (.aload_n 0, 1) := by decide +kernel
theorem d_T_init_35 : decode b_T_init 35 = .ok (.iload_n 1, 1) := by decide +kernel
theorem d_T_init_36 : decode b_T_init 36 = .ok (.putfield 30, 3) := by decide +kernel
theorem d_T_init_39 : decode b_T_init 39 = .ok (.aload_n 0, 1) := by decide +kernel
theorem d_T_init_40 : decode b_T_init 40 = .ok (.aload_n 2, 1) := by decide +kernel
theorem d_T_init_41 : decode b_T_init 41 = .ok (.putfield 33, 3) := by decide +kernel
theorem d_T_init_44 : decode b_T_init 44 = .ok (.aload_n 0, 1) := by decide +kernel
theorem d_T_init_45 : decode b_T_init 45 = .ok (.iload_n 3, 1) := by decide +kernel
theorem d_T_init_46 : decode b_T_init 46 = .ok (.putfield 37, 3) := by decide +kernel
theorem d_T_init_49 : decode b_T_init 49 = .ok (.aload_n 0, 1) := by decide +kernel
theorem d_T_init_50 : decode b_T_init 50 = .ok (.aload 4, 2) := by decide +kernel
theorem d_T_init_52 : decode b_T_init 52 = .ok (.putfield 40, 3) := by decide +kernel
theorem d_T_init_55 : decode b_T_init 55 = .ok (.aload_n 0, 1) := by decide +kernel
theorem d_T_init_56 : decode b_T_init 56 = .ok (.lload 5, 2) := by decide +kernel
theorem d_T_init_58 : decode b_T_init 58 = .ok (.putfield 44, 3) := by decide +kernel
theorem d_T_init_61 : decode b_T_init 61 = .ok (.aload_n 0, 1) := by decide +kernel
theorem d_T_init_62 : decode b_T_init 62 = .ok (.iload 7, 2) := by decide +kernel
theorem d_T_init_64 : decode b_T_init 64 = .ok (.putfield 48, 3) := by decide +kernel
theorem d_T_init_67 : decode b_T_init 67 = .ok (.return_, 1) := by decide +kernel
theorem d_A_add_0 : decode b_A_add 0 = .ok (.aload_n 0, 1) := by decide +kernel
theorem d_A_add_1 : decode b_A_add 1 = .ok (.dup, 1) := by decide +kernel
theorem d_A_add_2 : decode b_A_add 2 = .ok (.getfield 63, 3) := by decide +kernel
theorem d_A_add_5 : decode b_A_add 5 = .ok (.iconst 1, 1) := by decide +kernel
theorem d_A_add_6 : decode b_A_add 6 = .ok (.iadd, 1) := by decide +kernel
theorem d_A_add_7 : decode b_A_add 7 = .ok (.putfield 63, 3) := by decide +kernel
theorem d_A_add_10 : decode b_A_add 10 = .ok (.aload_n 0, 1) := by decide +kernel
theorem d_A_add_11 : decode b_A_add 11 = .ok (.aload_n 1, 1) := by decide +kernel
theorem d_A_add_12 : decode b_A_add 12 = .ok (.aload_n 0, 1) := by decide +kernel
theorem d_A_add_13 : decode b_A_add 13 = .ok (.getfield 9, 3) := by decide +kernel
theorem d_A_add_16 : decode b_A_add 16 = .ok (.aload_n 0, 1) := by decide +kernel
theorem d_A_add_17 : decode b_A_add 17 = .ok (.getfield 48, 3) := by decide +kernel
theorem d_A_add_20 : decode b_A_add 20 = .ok (.invokevirtual 131, 3) := by decide +kernel
theorem d_A_add_23 : decode b_A_add 23 = .ok (.iconst 1, 1) := by decide +kernel
theorem d_A_add_24 : decode b_A_add 24 = .ok (.ireturn, 1) := by decide +kernel
theorem d_A_add3_0 : decode b_A_add3 0 = .ok (.iload_n 3, 1) := by decide +kernel
theorem d_A_add3_1 : decode b_A_add3 1 = .ok (.aload_n 2, 1) := by decide +kernel
theorem d_A_add3_2 : decode b_A_add3 2 = .ok (.arraylength, 1) := by decide +kernel
theorem d_A_add3_3 : decode b_A_add3 3 = .ok (.if_icmp .ne 8, 3) := by decide +kernel
theorem d_A_add3_6 : decode b_A_add3 6 = .ok (.aload_n 0, 1) := by decide +kernel
theorem d_A_add3_7 : decode b_A_add3 7 = .ok (.invokevirtual 129, 3) := by decide +kernel
theorem d_A_add3_10 : decode b_A_add3 10 = .ok (.astore_n 2, 1) := by decide +kernel
theorem d_A_add3_11 : decode b_A_add3 11 = .ok (.aload_n 2, 1) := by decide +kernel
theorem d_A_add3_12 : decode b_A_add3 12 = .ok (.iload_n 3, 1) := by decide +kernel
theorem d_A_add3_13 : decode b_A_add3 13 = .ok (.aload_n 1, 1) := by decide +kernel
theorem d_A_add3_14 : decode b_A_add3 14 = .ok (.aastore, 1) := by decide +kernel
theorem d_A_add3_15 : decode b_A_add3 15 = .ok (.aload_n 0, 1) := by decide +kernel
theorem d_A_add3_16 : decode b_A_add3 16 = .ok (.iload_n 3, 1) := by decide +kernel
theorem d_A_add3_17 : decode b_A_add3 17 = .ok (.iconst 1, 1) := by decide +kernel
theorem d_A_add3_18 : decode b_A_add3 18 = .ok (.iadd, 1) := by decide +kernel
theorem d_A_add3_19 : decode b_A_add3 19 = .ok (.putfield 48, 3) := by decide +kernel
theorem d_A_add3_22 : decode b_A_add3 22 = .ok (.return_, 1) := by decide +kernel
theorem d_A_grow_0 : decode b_A_grow 0 = .ok (.aload_n 0, 1) := by decide +kernel
theorem d_A_grow_1 : decode b_A_grow 1 = .ok (.aload_n 0, 1) := by decide +kernel
theorem d_A_grow_2 : decode b_A_grow 2 = .ok (.getfield 48, 3) := by decide +kernel
theorem d_A_grow_5 : decode b_A_grow 5 = .ok (.iconst 1, 1) := by decide +kernel
theorem d_A_grow_6 : decode b_A_grow 6 = .ok (.iadd, 1) := by decide +kernel
theorem d_A_grow_7 : decode b_A_grow 7 = .ok (.invokevirtual 69, 3) := by decide +kernel
theorem d_A_grow_10 : decode b_A_grow 10 = .ok (.areturn, 1) := by decide +kernel
theorem d_A_grow1_0 : decode b_A_grow1 0 = .ok (.aload_n 0, 1) := by decide +kernel
theorem d_A_grow1_1 : decode b_A_grow1 1 = .ok (.getfield 9, 3) := by decide +kernel
theorem d_A_grow1_4 : decode b_A_grow1 4 = .ok (.arraylength, 1) := by decide +kernel
theorem d_A_grow1_5 : decode b_A_grow1 5 = .ok (.istore_n 2, 1) := by decide +kernel
theorem d_A_grow1_6 : decode b_A_grow1 6 = .ok (.iload_n 2, 1) := by decide +kernel
theorem d_A_grow1_7 : decode b_A_grow1 7 = .ok (.ifCond .gt 13, 3) := by decide +kernel
theorem d_A_grow1_10 : decode b_A_grow1 10 = .ok (.aload_n 0, 1) := by decide +kernel
theorem d_A_grow1_11 : decode b_A_grow1 11 = .ok (.getfield 9, 3) := by decide +kernel
theorem d_A_grow1_14 : decode b_A_grow1 14 = .ok (.getstatic 39, 3) := by decide +kernel
theorem d_A_grow1_17 : decode b_A_grow1 17 = .ok (.if_acmp .eq 28, 3) := by decide +kernel
theorem d_A_grow1_20 : decode b_A_grow1 20 = .ok (.iload_n 2, 1) := by decide +kernel
theorem d_A_grow1_21 : decode b_A_grow1 21 = .ok (.iload_n 1, 1) := by decide +kernel
theorem d_A_grow1_22 : decode b_A_grow1 22 = .ok (.iload_n 2, 1) := by decide +kernel
theorem d_A_grow1_23 : decode b_A_grow1 23 = .ok (.isub, 1) := by decide +kernel
theorem d_A_grow1_24 : decode b_A_grow1 24 = .ok (.iload_n 2, 1) := by decide +kernel
theorem d_A_grow1_25 : decode b_A_grow1 25 = .ok (.iconst 1, 1) := by decide +kernel
theorem d_A_grow1_26 : decode b_A_grow1 26 = .ok (.ishr, 1) := by decide +kernel
theorem d_A_grow1_27 : decode b_A_grow1 27 = .ok (.invokestatic 73, 3) := by decide +kernel
theorem d_A_grow1_30 : decode b_A_grow1 30 = .ok (.istore_n 3, 1) := by decide +kernel
theorem d_A_grow1_31 : decode b_A_grow1 31 = .ok (.aload_n 0, 1) := by decide +kernel
theorem d_A_grow1_32 : decode b_A_grow1 32 = .ok (.aload_n 0, 1) := by decide +kernel
theorem d_A_grow1_33 : decode b_A_grow1 33 = .ok (.getfield 9, 3) := by decide +kernel
theorem d_A_grow1_36 : decode b_A_grow1 36 = .ok (.iload_n 3, 1) := by decide +kernel
theorem d_A_grow1_37 : decode b_A_grow1 37 = .ok (.invokestatic 66, 3) := by decide +kernel
theorem d_A_grow1_40 : decode b_A_grow1 40 = .ok (.dup_x1, 1) := by decide +kernel
theorem d_A_grow1_41 : decode b_A_grow1 41 = .ok (.putfield 9, 3) := by decide +kernel
theorem d_A_grow1_44 : decode b_A_grow1 44 = .ok (.areturn, 1) := by decide +kernel
theorem d_A_grow1_45 : decode b_A_grow1 45 = .ok (.aload_n 0, 1) := by decide +kernel
theorem d_A_grow1_46 : decode b_A_grow1 46 = .ok (.bipush 10, 2) := by decide +kernel
theorem d_A_grow1_48 : decode b_A_grow1 48 = .ok (.iload_n 1, 1) := by decide +kernel
theorem d_A_grow1_49 : decode b_A_grow1 49 = .ok (.invokestatic 79, 3) := by decide +kernel
theorem d_A_grow1_52 : decode b_A_grow1 52 = .ok (.anewarray 7, 3) := by decide +kernel
theorem d_A_grow1_55 : decode b_A_grow1 55 = .ok (.dup_x1, 1) := by decide +kernel
theorem d_A_grow1_56 : decode b_A_grow1 56 = .ok (.putfield 9, 3) := by decide +kernel
theorem d_A_grow1_59 : decode b_A_grow1 59 = .ok (.areturn, 1) := by decide +kernel
theorem d_S_newLength_0 : decode b_S_newLength 0 = .ok (.iload_n 0, 1) := by decide +kernel
theorem d_S_newLength_1 : decode b_S_newLength 1 = .ok (.iload_n 1, 1) := by decide +kernel
theorem d_S_newLength_2 : decode b_S_newLength 2 = .ok (.iload_n 2, 1) := by decide +kernel
theorem d_S_newLength_3 : decode b_S_newLength 3 = .ok (.invokestatic 194, 3) := by decide +kernel
theorem d_S_newLength_6 : decode b_S_newLength 6 = .ok (.iadd, 1) := by decide +kernel
theorem d_S_newLength_7 : decode b_S_newLength 7 = .ok (.istore_n 3, 1) := by decide +kernel
theorem d_S_newLength_8 : decode b_S_newLength 8 = .ok (.iconst 0, 1) := by decide +kernel
theorem d_S_newLength_9 : decode b_S_newLength 9 = .ok (.iload_n 3, 1) := by decide +kernel
theorem d_S_newLength_10 : decode b_S_newLength 10 = .ok (.if_icmp .ge 11, 3) := by decide +kernel
theorem d_S_newLength_13 : decode b_S_newLength 13 = .ok (.iload_n 3, 1) := by decide +kernel
theorem d_S_newLength_14 : decode b_S_newLength 14 = .ok (.ldc 200, 2) := by decide +kernel
theorem d_S_newLength_16 : decode b_S_newLength 16 = .ok (.if_icmp .gt 5, 3) := by decide +kernel
theorem d_S_newLength_19 : decode b_S_newLength 19 = .ok (.iload_n 3, 1) := by decide +kernel
theorem d_S_newLength_20 : decode b_S_newLength 20 = .ok (.ireturn, 1) := by decide +kernel
theorem d_S_newLength_21 : decode b_S_newLength 21 = .ok (.iload_n 0, 1) := by decide +kernel
theorem d_S_newLength_22 : decode b_S_newLength 22 = .ok (.iload_n 1, 1) := by decide +kernel
theorem d_S_newLength_23 : decode b_S_newLength 23 = .ok (.invokestatic 201, 3) := by decide +kernel
theorem d_S_newLength_26 : decode b_S_newLength 26 = .ok (.ireturn, 1) := by decide +kernel
theorem d_Y_copyOf_0 : decode b_Y_copyOf 0 = .ok (.aload_n 0, 1) := by decide +kernel
theorem d_Y_copyOf_1 : decode b_Y_copyOf 1 = .ok (.iload_n 1, 1) := by decide +kernel
theorem d_Y_copyOf_2 : decode b_Y_copyOf 2 = .ok (.aload_n 0, 1) := by decide +kernel
theorem d_Y_copyOf_3 : decode b_Y_copyOf 3 = .ok (.invokevirtual 86, 3) := by decide +kernel
theorem d_Y_copyOf_6 : decode b_Y_copyOf 6 = .ok (.invokestatic 300, 3) := by decide +kernel
theorem d_Y_copyOf_9 : decode b_Y_copyOf 9 = .ok (.areturn, 1) := by decide +kernel
theorem d_Y_copyOf3_0 : decode b_Y_copyOf3 0 = .ok (.aload_n 2, 1) := by decide +kernel
theorem d_Y_copyOf3_1 : decode b_Y_copyOf3 1 = .ok (.ldc 110, 2) := by decide +kernel
theorem d_Y_copyOf3_3 : decode b_Y_copyOf3 3 = .ok (.if_acmp .ne 10, 3) := by decide +kernel
theorem d_Y_copyOf3_6 : decode b_Y_copyOf3 6 = .ok (.iload_n 1, 1) := by decide +kernel
theorem d_Y_copyOf3_7 : decode b_Y_copyOf3 7 = .ok (.anewarray 2, 3) := by decide +kernel
theorem d_Y_copyOf3_10 : decode b_Y_copyOf3 10 = .ok (.goto 14, 3) := by decide +kernel
theorem d_Y_copyOf3_13 : decode b_Y_copyOf3 13 = .ok (.aload_n 2, 1) := by decide +kernel
theorem d_Y_copyOf3_14 : decode b_Y_copyOf3 14 = .ok (.invokevirtual 90, 3) := by decide +kernel
theorem d_Y_copyOf3_17 : decode b_Y_copyOf3 17 = .ok (.iload_n 1, 1) := by decide +kernel
theorem d_Y_copyOf3_18 : decode b_Y_copyOf3 18 = .ok (.invokestatic 95, 3) := by decide +kernel
theorem d_Y_copyOf3_21 : decode b_Y_copyOf3 21 = .ok (.checkcast 110, 3) := by decide +kernel
theorem d_Y_copyOf3_24 : decode b_Y_copyOf3 24 = .ok (.astore_n 3, 1) := by decide +kernel
theorem d_Y_copyOf3_25 : decode b_Y_copyOf3 25 = .ok (.aload_n 0, 1) := by decide +kernel
theorem d_Y_copyOf3_26 : decode b_Y_copyOf3 26 = .ok (.iconst 0, 1) := by decide +kernel
theorem d_Y_copyOf3_27 : decode b_Y_copyOf3 27 = .ok (.aload_n 3, 1) := by decide +kernel
theorem d_Y_copyOf3_28 : decode b_Y_copyOf3 28 = .ok (.iconst 0, 1) := by decide +kernel
theorem d_Y_copyOf3_29 : decode b_Y_copyOf3 29 = .ok (.aload_n 0, 1) := by decide +kernel
theorem d_Y_copyOf3_30 : decode b_Y_copyOf3 30 = .ok (.arraylength, 1) := by decide +kernel
theorem d_Y_copyOf3_31 : decode b_Y_copyOf3 31 = .ok (.iload_n 1, 1) := by decide +kernel
theorem d_Y_copyOf3_32 : decode b_Y_copyOf3 32 = .ok (.invokestatic 304, 3) := by decide +kernel
theorem d_Y_copyOf3_35 : decode b_Y_copyOf3 35 = .ok (.invokestatic 150, 3) := by decide +kernel
theorem d_Y_copyOf3_38 : decode b_Y_copyOf3 38 = .ok (.aload_n 3, 1) := by decide +kernel
theorem d_Y_copyOf3_39 : decode b_Y_copyOf3 39 = .ok (.areturn, 1) := by decide +kernel
theorem d_L_lend_0 : decode b_L_lend 0 = .ok (.aload_n 3, 1) := by decide +kernel
theorem d_L_lend_1 : decode b_L_lend 1 = .ok (.iconst 0, 1) := by decide +kernel
theorem d_L_lend_2 : decode b_L_lend 2 = .ok (.aload_n 0, 1) := by decide +kernel
theorem d_L_lend_3 : decode b_L_lend 3 = .ok (.iload_n 1, 1) := by decide +kernel
theorem d_L_lend_4 : decode b_L_lend 4 = .ok (.iload_n 2, 1) := by decide +kernel
theorem d_L_lend_5 : decode b_L_lend 5 = .ok (.invokevirtual 17, 3) := by decide +kernel
theorem d_L_lend_8 : decode b_L_lend 8 = .ok (.i2l, 1) := by decide +kernel
theorem d_L_lend_9 : decode b_L_lend 9 = .ok (.lastore, 1) := by decide +kernel
theorem d_L_lend_10 : decode b_L_lend 10 = .ok (.goto 7, 3) := by decide +kernel
theorem d_L_lend_13 : decode b_L_lend 13 = .ok (.astore 4, 2) := by decide +kernel
theorem d_L_lend_15 : decode b_L_lend 15 = .ok (.iconst 1, 1) := by decide +kernel
theorem d_L_lend_16 : decode b_L_lend 16 = .ok (.ireturn, 1) := by decide +kernel
theorem d_L_lend_17 : decode b_L_lend 17 = .ok (.iconst 0, 1) := by decide +kernel
theorem d_L_lend_18 : decode b_L_lend 18 = .ok (.ireturn, 1) := by decide +kernel
theorem d_X_lend_0 : decode b_X_lend 0 = .ok (.aload_n 0, 1) := by decide +kernel
theorem d_X_lend_1 : decode b_X_lend 1 = .ok (.iload_n 2, 1) := by decide +kernel
theorem d_X_lend_2 : decode b_X_lend 2 = .ok (.invokevirtual 37, 3) := by decide +kernel
theorem d_X_lend_5 : decode b_X_lend 5 = .ok (.astore_n 3, 1) := by decide +kernel
theorem d_X_lend_6 : decode b_X_lend 6 = .ok (.aload_n 3, 1) := by decide +kernel
theorem d_X_lend_7 : decode b_X_lend 7 = .ok (.ifnull 10, 3) := by decide +kernel
theorem d_X_lend_10 : decode b_X_lend 10 = .ok (.iload_n 1, 1) := by decide +kernel
theorem d_X_lend_11 : decode b_X_lend 11 = .ok (.invokestatic 83, 3) := by decide +kernel
theorem d_X_lend_14 : decode b_X_lend 14 = .ok (.ifCond .ne 13, 3) := by decide +kernel
theorem d_X_lend_17 : decode b_X_lend 17 = .ok (.new 45, 3) := by decide +kernel
theorem d_X_lend_20 : decode b_X_lend 20 = .ok (.dup, 1) := by decide +kernel
theorem d_X_lend_21 : decode b_X_lend 21 = .ok (.ldc 87, 2) := by decide +kernel
theorem d_X_lend_23 : decode b_X_lend 23 = .ok (.invokespecial 49, 3) := by decide +kernel
theorem d_X_lend_26 : decode b_X_lend 26 = .ok (.athrow, 1) := by decide +kernel
theorem d_X_lend_27 : decode b_X_lend 27 = .ok (.aload_n 0, 1) := by decide +kernel
theorem d_X_lend_28 : decode b_X_lend 28 = .ok (.aload_n 3, 1) := by decide +kernel
theorem d_X_lend_29 : decode b_X_lend 29 = .ok (.invokevirtual 89, 3) := by decide +kernel
theorem d_X_lend_32 : decode b_X_lend 32 = .ok (.astore 4, 2) := by decide +kernel
theorem d_X_lend_34 : decode b_X_lend 34 = .ok (.aload 4, 2) := by decide +kernel
theorem d_X_lend_36 : decode b_X_lend 36 = .ok (.ifnull 12, 3) := by decide +kernel
theorem d_X_lend_39 : decode b_X_lend 39 = .ok (.aload_n 0, 1) := by decide +kernel
theorem d_X_lend_40 : decode b_X_lend 40 = .ok (.iload_n 1, 1) := by decide +kernel
theorem d_X_lend_41 : decode b_X_lend 41 = .ok (.invokevirtual 93, 3) := by decide +kernel
theorem d_X_lend_44 : decode b_X_lend 44 = .ok (.iconst 4, 1) := by decide +kernel
theorem d_X_lend_45 : decode b_X_lend 45 = .ok (.if_icmp .lt 5, 3) := by decide +kernel
theorem d_X_lend_48 : decode b_X_lend 48 = .ok (.iconst (-1), 1) := by decide +kernel
theorem d_X_lend_49 : decode b_X_lend 49 = .ok (.ireturn, 1) := by decide +kernel
theorem d_X_lend_50 : decode b_X_lend 50 = .ok (.aload_n 0, 1) := by decide +kernel
theorem d_X_lend_51 : decode b_X_lend 51 = .ok (.dup, 1) := by decide +kernel
theorem d_X_lend_52 : decode b_X_lend 52 = .ok (.getfield 32, 3) := by decide +kernel
theorem d_X_lend_55 : decode b_X_lend 55 = .ok (.dup_x1, 1) := by decide +kernel
theorem d_X_lend_56 : decode b_X_lend 56 = .ok (.iconst 1, 1) := by decide +kernel
theorem d_X_lend_57 : decode b_X_lend 57 = .ok (.iadd, 1) := by decide +kernel
theorem d_X_lend_58 : decode b_X_lend 58 = .ok (.putfield 32, 3) := by decide +kernel
theorem d_X_lend_61 : decode b_X_lend 61 = .ok (.istore 5, 2) := by decide +kernel
theorem d_X_lend_63 : decode b_X_lend 63 = .ok (.aload 4, 2) := by decide +kernel
theorem d_X_lend_65 : decode b_X_lend 65 = .ok (.iload_n 1, 1) := by decide +kernel
theorem d_X_lend_66 : decode b_X_lend 66 = .ok (.iload 5, 2) := by decide +kernel
theorem d_X_lend_68 : decode b_X_lend 68 = .ok (.aload_n 0, 1) := by decide +kernel
theorem d_X_lend_69 : decode b_X_lend 69 = .ok (.getfield 28, 3) := by decide +kernel
theorem d_X_lend_72 : decode b_X_lend 72 = .ok (.invokevirtual 97, 3) := by decide +kernel
theorem d_X_lend_75 : decode b_X_lend 75 = .ok (.iload 5, 2) := by decide +kernel
theorem d_X_lend_77 : decode b_X_lend 77 = .ok (.ireturn, 1) := by decide +kernel
theorem d_T_becomeLent_0 : decode b_T_becomeLent 0 = .ok (.aload_n 0, 1) := by decide +kernel
theorem d_T_becomeLent_1 : decode b_T_becomeLent 1 = .ok (.iconst 1, 1) := by decide +kernel
theorem d_T_becomeLent_2 : decode b_T_becomeLent 2 = .ok (.invokevirtual 85, 3) := by decide +kernel
theorem d_T_becomeLent_5 : decode b_T_becomeLent 5 = .ok (.aload_n 0, 1) := by decide +kernel
theorem d_T_becomeLent_6 : decode b_T_becomeLent 6 = .ok (.dup, 1) := by decide +kernel
theorem d_T_becomeLent_7 : decode b_T_becomeLent 7 = .ok (.getfield 15, 3) := by decide +kernel
theorem d_T_becomeLent_10 : decode b_T_becomeLent 10 = .ok (.iconst 1, 1) := by decide +kernel
theorem d_T_becomeLent_11 : decode b_T_becomeLent 11 = .ok (.iadd, 1) := by decide +kernel
theorem d_T_becomeLent_12 : decode b_T_becomeLent 12 = .ok (.putfield 15, 3) := by decide +kernel
theorem d_T_becomeLent_15 : decode b_T_becomeLent 15 = .ok (.aload_n 0, 1) := by decide +kernel
theorem d_T_becomeLent_16 : decode b_T_becomeLent 16 = .ok (.iload_n 1, 1) := by decide +kernel
theorem d_T_becomeLent_17 : decode b_T_becomeLent 17 = .ok (.putfield 21, 3) := by decide +kernel
theorem d_T_becomeLent_20 : decode b_T_becomeLent 20 = .ok (.aload_n 0, 1) := by decide +kernel
theorem d_T_becomeLent_21 : decode b_T_becomeLent 21 = .ok (.iload_n 2, 1) := by decide +kernel
theorem d_T_becomeLent_22 : decode b_T_becomeLent 22 = .ok (.putfield 24, 3) := by decide +kernel
theorem d_T_becomeLent_25 : decode b_T_becomeLent 25 = .ok (.aload_n 0, 1) := by decide +kernel
theorem d_T_becomeLent_26 : decode b_T_becomeLent 26 = .ok (.iload_n 3, 1) := by decide +kernel
theorem d_T_becomeLent_27 : decode b_T_becomeLent 27 = .ok (.aload_n 0, 1) := by decide +kernel
theorem d_T_becomeLent_28 : decode b_T_becomeLent 28 = .ok (.getfield 33, 3) := by decide +kernel
theorem d_T_becomeLent_31 : decode b_T_becomeLent 31 = .ok (.getfield 89, 3) := by decide +kernel
theorem d_T_becomeLent_34 : decode b_T_becomeLent 34 = .ok (.iadd, 1) := by decide +kernel
theorem d_T_becomeLent_35 : decode b_T_becomeLent 35 = .ok (.putfield 18, 3) := by decide +kernel
theorem d_T_becomeLent_38 : decode b_T_becomeLent 38 = .ok (.return_, 1) := by decide +kernel
theorem d_L_end_0 : decode b_L_end 0 = .ok (.aload_n 3, 1) := by decide +kernel
theorem d_L_end_1 : decode b_L_end 1 = .ok (.iconst 0, 1) := by decide +kernel
theorem d_L_end_2 : decode b_L_end 2 = .ok (.aload_n 0, 1) := by decide +kernel
theorem d_L_end_3 : decode b_L_end 3 = .ok (.iload_n 1, 1) := by decide +kernel
theorem d_L_end_4 : decode b_L_end 4 = .ok (.iload_n 2, 1) := by decide +kernel
theorem d_L_end_5 : decode b_L_end 5 = .ok (.invokevirtual 21, 3) := by decide +kernel
theorem d_L_end_8 : decode b_L_end 8 = .ok (.i2l, 1) := by decide +kernel
theorem d_L_end_9 : decode b_L_end 9 = .ok (.lastore, 1) := by decide +kernel
theorem d_L_end_10 : decode b_L_end 10 = .ok (.goto 11, 3) := by decide +kernel
theorem d_L_end_13 : decode b_L_end 13 = .ok (.astore 4, 2) := by decide +kernel
theorem d_L_end_15 : decode b_L_end 15 = .ok (.iconst 1, 1) := by decide +kernel
theorem d_L_end_16 : decode b_L_end 16 = .ok (.ireturn, 1) := by decide +kernel
theorem d_L_end_17 : decode b_L_end 17 = .ok (.astore 4, 2) := by decide +kernel
theorem d_L_end_19 : decode b_L_end 19 = .ok (.iconst 2, 1) := by decide +kernel
theorem d_L_end_20 : decode b_L_end 20 = .ok (.ireturn, 1) := by decide +kernel
theorem d_L_end_21 : decode b_L_end 21 = .ok (.iconst 0, 1) := by decide +kernel
theorem d_L_end_22 : decode b_L_end 22 = .ok (.ireturn, 1) := by decide +kernel
theorem d_X_end_0 : decode b_X_end 0 = .ok (.aload_n 0, 1) := by decide +kernel
theorem d_X_end_1 : decode b_X_end 1 = .ok (.iload_n 1, 1) := by decide +kernel
theorem d_X_end_2 : decode b_X_end 2 = .ok (.invokevirtual 101, 3) := by decide +kernel
theorem d_X_end_5 : decode b_X_end 5 = .ok (.astore_n 3, 1) := by decide +kernel
theorem d_X_end_6 : decode b_X_end 6 = .ok (.aload_n 3, 1) := by decide +kernel
theorem d_X_end_7 : decode b_X_end 7 = .ok (.ifnonnull 13, 3) := by decide +kernel
theorem d_X_end_10 : decode b_X_end 10 = .ok (.new 115, 3) := by decide +kernel
theorem d_X_end_13 : decode b_X_end 13 = .ok (.dup, 1) := by decide +kernel
theorem d_X_end_14 : decode b_X_end 14 = .ok (.ldc 117, 2) := by decide +kernel
theorem d_X_end_16 : decode b_X_end 16 = .ok (.invokespecial 119, 3) := by decide +kernel
theorem d_X_end_19 : decode b_X_end 19 = .ok (.athrow, 1) := by decide +kernel
theorem d_X_end_20 : decode b_X_end 20 = .ok (.iload_n 2, 1) := by decide +kernel
theorem d_X_end_21 : decode b_X_end 21 = .ok (.tableswitch 70 0 2 #[27, 38, 49], 27) := by decide +kernel
theorem d_X_end_48 : decode b_X_end 48 = .ok (.aload_n 3, 1) := by decide +kernel
theorem d_X_end_49 : decode b_X_end 49 = .ok (.aload_n 0, 1) := by decide +kernel
theorem d_X_end_50 : decode b_X_end 50 = .ok (.getfield 28, 3) := by decide +kernel
theorem d_X_end_53 : decode b_X_end 53 = .ok (.invokevirtual 120, 3) := by decide +kernel
theorem d_X_end_56 : decode b_X_end 56 = .ok (.goto 45, 3) := by decide +kernel
theorem d_X_end_59 : decode b_X_end 59 = .ok (.aload_n 3, 1) := by decide +kernel
theorem d_X_end_60 : decode b_X_end 60 = .ok (.aload_n 0, 1) := by decide +kernel
theorem d_X_end_61 : decode b_X_end 61 = .ok (.getfield 28, 3) := by decide +kernel
theorem d_X_end_64 : decode b_X_end 64 = .ok (.invokevirtual 124, 3) := by decide +kernel
theorem d_X_end_67 : decode b_X_end 67 = .ok (.goto 34, 3) := by decide +kernel
theorem d_X_end_70 : decode b_X_end 70 = .ok (.aload_n 3, 1) := by decide +kernel
theorem d_X_end_71 : decode b_X_end 71 = .ok (.aload_n 0, 1) := by decide +kernel
theorem d_X_end_72 : decode b_X_end 72 = .ok (.getfield 28, 3) := by decide +kernel
theorem d_X_end_75 : decode b_X_end 75 = .ok (.invokevirtual 127, 3) := by decide +kernel
theorem d_X_end_78 : decode b_X_end 78 = .ok (.aload_n 3, 1) := by decide +kernel
theorem d_X_end_79 : decode b_X_end 79 = .ok (.dup, 1) := by decide +kernel
theorem d_X_end_80 : decode b_X_end 80 = .ok (.getfield 130, 3) := by decide +kernel
theorem d_X_end_83 : decode b_X_end 83 = .ok (.iconst 1, 1) := by decide +kernel
theorem d_X_end_84 : decode b_X_end 84 = .ok (.isub, 1) := by decide +kernel
theorem d_X_end_85 : decode b_X_end 85 = .ok (.putfield 130, 3) := by decide +kernel
theorem d_X_end_88 : decode b_X_end 88 = .ok (.goto 13, 3) := by decide +kernel
theorem d_X_end_91 : decode b_X_end 91 = .ok (.new 45, 3) := by decide +kernel
theorem d_X_end_94 : decode b_X_end 94 = .ok (.dup, 1) := by decide +kernel
theorem d_X_end_95 : decode b_X_end 95 = .ok (.ldc 133, 2) := by decide +kernel
theorem d_X_end_97 : decode b_X_end 97 = .ok (.invokespecial 49, 3) := by decide +kernel
theorem d_X_end_100 : decode b_X_end 100 = .ok (.athrow, 1) := by decide +kernel
theorem d_X_end_101 : decode b_X_end 101 = .ok (.aload_n 3, 1) := by decide +kernel
theorem d_X_end_102 : decode b_X_end 102 = .ok (.getfield 135, 3) := by decide +kernel
theorem d_X_end_105 : decode b_X_end 105 = .ok (.ireturn, 1) := by decide +kernel
theorem d_T_becomeDone_0 : decode b_T_becomeDone 0 = .ok (.aload_n 0, 1) := by decide +kernel
theorem d_T_becomeDone_1 : decode b_T_becomeDone 1 = .ok (.iconst 2, 1) := by decide +kernel
theorem d_T_becomeDone_2 : decode b_T_becomeDone 2 = .ok (.invokevirtual 85, 3) := by decide +kernel
theorem d_T_becomeDone_5 : decode b_T_becomeDone 5 = .ok (.aload_n 0, 1) := by decide +kernel
theorem d_T_becomeDone_6 : decode b_T_becomeDone 6 = .ok (.iload_n 1, 1) := by decide +kernel
theorem d_T_becomeDone_7 : decode b_T_becomeDone 7 = .ok (.putfield 27, 3) := by decide +kernel
theorem d_T_becomeDone_10 : decode b_T_becomeDone 10 = .ok (.return_, 1) := by decide +kernel
theorem d_T_tryAgain_0 : decode b_T_tryAgain 0 = .ok (.aload_n 0, 1) := by decide +kernel
theorem d_T_tryAgain_1 : decode b_T_tryAgain 1 = .ok (.getfield 15, 3) := by decide +kernel
theorem d_T_tryAgain_4 : decode b_T_tryAgain 4 = .ok (.aload_n 0, 1) := by decide +kernel
theorem d_T_tryAgain_5 : decode b_T_tryAgain 5 = .ok (.getfield 33, 3) := by decide +kernel
theorem d_T_tryAgain_8 : decode b_T_tryAgain 8 = .ok (.getfield 92, 3) := by decide +kernel
theorem d_T_tryAgain_11 : decode b_T_tryAgain 11 = .ok (.if_icmp .lt 11, 3) := by decide +kernel
theorem d_T_tryAgain_14 : decode b_T_tryAgain 14 = .ok (.aload_n 0, 1) := by decide +kernel
theorem d_T_tryAgain_15 : decode b_T_tryAgain 15 = .ok (.iconst 3, 1) := by decide +kernel
theorem d_T_tryAgain_16 : decode b_T_tryAgain 16 = .ok (.invokevirtual 85, 3) := by decide +kernel
theorem d_T_tryAgain_19 : decode b_T_tryAgain 19 = .ok (.goto 20, 3) := by decide +kernel
theorem d_T_tryAgain_22 : decode b_T_tryAgain 22 = .ok (.aload_n 0, 1) := by decide +kernel
theorem d_T_tryAgain_23 : decode b_T_tryAgain 23 = .ok (.iload_n 1, 1) := by decide +kernel
theorem d_T_tryAgain_24 : decode b_T_tryAgain 24 = .ok (.aload_n 0, 1) := by decide +kernel
theorem d_T_tryAgain_25 : decode b_T_tryAgain 25 = .ok (.getfield 33, 3) := by decide +kernel
theorem d_T_tryAgain_28 : decode b_T_tryAgain 28 = .ok (.aload_n 0, 1) := by decide +kernel
theorem d_T_tryAgain_29 : decode b_T_tryAgain 29 = .ok (.getfield 15, 3) := by decide +kernel
theorem d_T_tryAgain_32 : decode b_T_tryAgain 32 = .ok (.invokevirtual 95, 3) := by decide +kernel
theorem d_T_tryAgain_35 : decode b_T_tryAgain 35 = .ok (.iadd, 1) := by decide +kernel
theorem d_T_tryAgain_36 : decode b_T_tryAgain 36 = .ok (.invokevirtual 98, 3) := by decide +kernel
theorem d_T_tryAgain_39 : decode b_T_tryAgain 39 = .ok (.return_, 1) := by decide +kernel
theorem d_Q_pauseAfter_0 : decode b_Q_pauseAfter 0 = .ok (.aload_n 0, 1) := by decide +kernel
theorem d_Q_pauseAfter_1 : decode b_Q_pauseAfter 1 = .ok (.getfield 18, 3) := by decide +kernel
theorem d_Q_pauseAfter_4 : decode b_Q_pauseAfter 4 = .ok (.iload_n 1, 1) := by decide +kernel
theorem d_Q_pauseAfter_5 : decode b_Q_pauseAfter 5 = .ok (.iconst 1, 1) := by decide +kernel
theorem d_Q_pauseAfter_6 : decode b_Q_pauseAfter 6 = .ok (.isub, 1) := by decide +kernel
theorem d_Q_pauseAfter_7 : decode b_Q_pauseAfter 7 = .ok (.ishl, 1) := by decide +kernel
theorem d_Q_pauseAfter_8 : decode b_Q_pauseAfter 8 = .ok (.aload_n 0, 1) := by decide +kernel
theorem d_Q_pauseAfter_9 : decode b_Q_pauseAfter 9 = .ok (.getfield 21, 3) := by decide +kernel
theorem d_Q_pauseAfter_12 : decode b_Q_pauseAfter 12 = .ok (.invokestatic 38, 3) := by decide +kernel
theorem d_Q_pauseAfter_15 : decode b_Q_pauseAfter 15 = .ok (.ireturn, 1) := by decide +kernel
theorem d_L_tick_0 : decode b_L_tick 0 = .ok (.aload_n 2, 1) := by decide +kernel
theorem d_L_tick_1 : decode b_L_tick 1 = .ok (.iconst 0, 1) := by decide +kernel
theorem d_L_tick_2 : decode b_L_tick 2 = .ok (.aload_n 0, 1) := by decide +kernel
theorem d_L_tick_3 : decode b_L_tick 3 = .ok (.iload_n 1, 1) := by decide +kernel
theorem d_L_tick_4 : decode b_L_tick 4 = .ok (.invokevirtual 26, 3) := by decide +kernel
theorem d_L_tick_7 : decode b_L_tick 7 = .ok (.i2l, 1) := by decide +kernel
theorem d_L_tick_8 : decode b_L_tick 8 = .ok (.lastore, 1) := by decide +kernel
theorem d_L_tick_9 : decode b_L_tick 9 = .ok (.goto 6, 3) := by decide +kernel
theorem d_L_tick_12 : decode b_L_tick 12 = .ok (.astore_n 3, 1) := by decide +kernel
theorem d_L_tick_13 : decode b_L_tick 13 = .ok (.iconst 1, 1) := by decide +kernel
theorem d_L_tick_14 : decode b_L_tick 14 = .ok (.ireturn, 1) := by decide +kernel
theorem d_L_tick_15 : decode b_L_tick 15 = .ok (.iconst 0, 1) := by decide +kernel
theorem d_L_tick_16 : decode b_L_tick 16 = .ok (.ireturn, 1) := by decide +kernel
theorem d_X_tick_0 : decode b_X_tick 0 = .ok (.iload_n 1, 1) := by decide +kernel
theorem d_X_tick_1 : decode b_X_tick 1 = .ok (.iconst 1, 1) := by decide +kernel
theorem d_X_tick_2 : decode b_X_tick 2 = .ok (.sipush 1000, 3) := by decide +kernel
theorem d_X_tick_5 : decode b_X_tick 5 = .ok (.invokestatic 41, 3) := by decide +kernel
theorem d_X_tick_8 : decode b_X_tick 8 = .ok (.ifCond .ne 13, 3) := by decide +kernel
theorem d_X_tick_11 : decode b_X_tick 11 = .ok (.new 45, 3) := by decide +kernel
theorem d_X_tick_14 : decode b_X_tick 14 = .ok (.dup, 1) := by decide +kernel
theorem d_X_tick_15 : decode b_X_tick 15 = .ok (.ldc 138, 2) := by decide +kernel
theorem d_X_tick_17 : decode b_X_tick 17 = .ok (.invokespecial 49, 3) := by decide +kernel
theorem d_X_tick_20 : decode b_X_tick 20 = .ok (.athrow, 1) := by decide +kernel
theorem d_X_tick_21 : decode b_X_tick 21 = .ok (.aload_n 0, 1) := by decide +kernel
theorem d_X_tick_22 : decode b_X_tick 22 = .ok (.getfield 28, 3) := by decide +kernel
theorem d_X_tick_25 : decode b_X_tick 25 = .ok (.iload_n 1, 1) := by decide +kernel
theorem d_X_tick_26 : decode b_X_tick 26 = .ok (.iadd, 1) := by decide +kernel
theorem d_X_tick_27 : decode b_X_tick 27 = .ok (.istore_n 2, 1) := by decide +kernel
theorem d_X_tick_28 : decode b_X_tick 28 = .ok (.iconst 0, 1) := by decide +kernel
theorem d_X_tick_29 : decode b_X_tick 29 = .ok (.istore_n 3, 1) := by decide +kernel
theorem d_X_tick_30 : decode b_X_tick 30 = .ok (.iconst 0, 1) := by decide +kernel
theorem d_X_tick_31 : decode b_X_tick 31 = .ok (.istore 4, 2) := by decide +kernel
theorem d_X_tick_33 : decode b_X_tick 33 = .ok (.iload 4, 2) := by decide +kernel
theorem d_X_tick_35 : decode b_X_tick 35 = .ok (.aload_n 0, 1) := by decide +kernel
theorem d_X_tick_36 : decode b_X_tick 36 = .ok (.getfield 24, 3) := by decide +kernel
theorem d_X_tick_39 : decode b_X_tick 39 = .ok (.invokevirtual 66, 3) := by decide +kernel
theorem d_X_tick_42 : decode b_X_tick 42 = .ok (.if_icmp .ge 54, 3) := by decide +kernel
theorem d_X_tick_45 : decode b_X_tick 45 = .ok (.aload_n 0, 1) := by decide +kernel
theorem d_X_tick_46 : decode b_X_tick 46 = .ok (.getfield 24, 3) := by decide +kernel
theorem d_X_tick_49 : decode b_X_tick 49 = .ok (.iload 4, 2) := by decide +kernel
theorem d_X_tick_51 : decode b_X_tick 51 = .ok (.invokevirtual 140, 3) := by decide +kernel
theorem d_X_tick_54 : decode b_X_tick 54 = .ok (.checkcast 74, 3) := by decide +kernel
theorem d_X_tick_57 : decode b_X_tick 57 = .ok (.astore 5, 2) := by decide +kernel
theorem d_X_tick_59 : decode b_X_tick 59 = .ok (.aload 5, 2) := by decide +kernel
theorem d_X_tick_61 : decode b_X_tick 61 = .ok (.getfield 144, 3) := by decide +kernel
theorem d_X_tick_64 : decode b_X_tick 64 = .ok (.iconst 1, 1) := by decide +kernel
theorem d_X_tick_65 : decode b_X_tick 65 = .ok (.if_icmp .ne 25, 3) := by decide +kernel
theorem d_X_tick_68 : decode b_X_tick 68 = .ok (.aload 5, 2) := by decide +kernel
theorem d_X_tick_70 : decode b_X_tick 70 = .ok (.getfield 112, 3) := by decide +kernel
theorem d_X_tick_73 : decode b_X_tick 73 = .ok (.iload_n 2, 1) := by decide +kernel
theorem d_X_tick_74 : decode b_X_tick 74 = .ok (.if_icmp .gt 16, 3) := by decide +kernel
theorem d_X_tick_77 : decode b_X_tick 77 = .ok (.aload 5, 2) := by decide +kernel
theorem d_X_tick_79 : decode b_X_tick 79 = .ok (.aload 5, 2) := by decide +kernel
theorem d_X_tick_81 : decode b_X_tick 81 = .ok (.getfield 112, 3) := by decide +kernel
theorem d_X_tick_84 : decode b_X_tick 84 = .ok (.invokevirtual 124, 3) := by decide +kernel
theorem d_X_tick_87 : decode b_X_tick 87 = .ok (.iinc 3 1, 3) := by decide +kernel
theorem d_X_tick_90 : decode b_X_tick 90 = .ok (.iinc 4 1, 3) := by decide +kernel
theorem d_X_tick_93 : decode b_X_tick 93 = .ok (.goto (-60), 3) := by decide +kernel
theorem d_X_tick_96 : decode b_X_tick 96 = .ok (.aload_n 0, 1) := by decide +kernel
theorem d_X_tick_97 : decode b_X_tick 97 = .ok (.iload_n 2, 1) := by decide +kernel
theorem d_X_tick_98 : decode b_X_tick 98 = .ok (.putfield 28, 3) := by decide +kernel
theorem d_X_tick_101 : decode b_X_tick 101 = .ok (.iload_n 3, 1) := by decide +kernel
theorem d_X_tick_102 : decode b_X_tick 102 = .ok (.ireturn, 1) := by decide +kernel
theorem d_L_task_0 : decode b_L_task 0 = .ok (.aload_n 3, 1) := by decide +kernel
theorem d_L_task_1 : decode b_L_task 1 = .ok (.iconst 0, 1) := by decide +kernel
theorem d_L_task_2 : decode b_L_task 2 = .ok (.aload_n 0, 1) := by decide +kernel
theorem d_L_task_3 : decode b_L_task 3 = .ok (.iload_n 1, 1) := by decide +kernel
theorem d_L_task_4 : decode b_L_task 4 = .ok (.iload_n 2, 1) := by decide +kernel
theorem d_L_task_5 : decode b_L_task 5 = .ok (.invokevirtual 30, 3) := by decide +kernel
theorem d_L_task_8 : decode b_L_task 8 = .ok (.i2l, 1) := by decide +kernel
theorem d_L_task_9 : decode b_L_task 9 = .ok (.lastore, 1) := by decide +kernel
theorem d_L_task_10 : decode b_L_task 10 = .ok (.goto 7, 3) := by decide +kernel
theorem d_L_task_13 : decode b_L_task 13 = .ok (.astore 4, 2) := by decide +kernel
theorem d_L_task_15 : decode b_L_task 15 = .ok (.iconst 1, 1) := by decide +kernel
theorem d_L_task_16 : decode b_L_task 16 = .ok (.ireturn, 1) := by decide +kernel
theorem d_L_task_17 : decode b_L_task 17 = .ok (.iconst 0, 1) := by decide +kernel
theorem d_L_task_18 : decode b_L_task 18 = .ok (.ireturn, 1) := by decide +kernel
theorem d_X_task_0 : decode b_X_task 0 = .ok (.aload_n 0, 1) := by decide +kernel
theorem d_X_task_1 : decode b_X_task 1 = .ok (.iload_n 1, 1) := by decide +kernel
theorem d_X_task_2 : decode b_X_task 2 = .ok (.invokevirtual 147, 3) := by decide +kernel
theorem d_X_task_5 : decode b_X_task 5 = .ok (.astore_n 3, 1) := by decide +kernel
theorem d_X_task_6 : decode b_X_task 6 = .ok (.aload_n 3, 1) := by decide +kernel
theorem d_X_task_7 : decode b_X_task 7 = .ok (.ifnonnull 13, 3) := by decide +kernel
theorem d_X_task_10 : decode b_X_task 10 = .ok (.new 115, 3) := by decide +kernel
theorem d_X_task_13 : decode b_X_task 13 = .ok (.dup, 1) := by decide +kernel
theorem d_X_task_14 : decode b_X_task 14 = .ok (.ldc 165, 2) := by decide +kernel
theorem d_X_task_16 : decode b_X_task 16 = .ok (.invokespecial 119, 3) := by decide +kernel
theorem d_X_task_19 : decode b_X_task 19 = .ok (.athrow, 1) := by decide +kernel
theorem d_X_task_20 : decode b_X_task 20 = .ok (.iload_n 2, 1) := by decide +kernel
theorem d_X_task_21 : decode b_X_task 21 = .ok (.tableswitch 144 0 6 #[43, 48, 53, 69, 86, 103, 120], 43) := by decide +kernel
theorem d_X_task_64 : decode b_X_task 64 = .ok (.aload_n 3, 1) := by decide +kernel
theorem d_X_task_65 : decode b_X_task 65 = .ok (.getfield 144, 3) := by decide +kernel
theorem d_X_task_68 : decode b_X_task 68 = .ok (.ireturn, 1) := by decide +kernel
theorem d_X_task_69 : decode b_X_task 69 = .ok (.aload_n 3, 1) := by decide +kernel
theorem d_X_task_70 : decode b_X_task 70 = .ok (.getfield 130, 3) := by decide +kernel
theorem d_X_task_73 : decode b_X_task 73 = .ok (.ireturn, 1) := by decide +kernel
theorem d_X_task_74 : decode b_X_task 74 = .ok (.aload_n 3, 1) := by decide +kernel
theorem d_X_task_75 : decode b_X_task 75 = .ok (.getfield 144, 3) := by decide +kernel
theorem d_X_task_78 : decode b_X_task 78 = .ok (.ifCond .ne 10, 3) := by decide +kernel
theorem d_X_task_81 : decode b_X_task 81 = .ok (.aload_n 3, 1) := by decide +kernel
theorem d_X_task_82 : decode b_X_task 82 = .ok (.getfield 167, 3) := by decide +kernel
theorem d_X_task_85 : decode b_X_task 85 = .ok (.goto 4, 3) := by decide +kernel
theorem d_X_task_88 : decode b_X_task 88 = .ok (.iconst (-1), 1) := by decide +kernel
theorem d_X_task_89 : decode b_X_task 89 = .ok (.ireturn, 1) := by decide +kernel
theorem d_X_task_90 : decode b_X_task 90 = .ok (.aload_n 3, 1) := by decide +kernel
theorem d_X_task_91 : decode b_X_task 91 = .ok (.getfield 144, 3) := by decide +kernel
theorem d_X_task_94 : decode b_X_task 94 = .ok (.iconst 1, 1) := by decide +kernel
theorem d_X_task_95 : decode b_X_task 95 = .ok (.if_icmp .ne 10, 3) := by decide +kernel
theorem d_X_task_98 : decode b_X_task 98 = .ok (.aload_n 3, 1) := by decide +kernel
theorem d_X_task_99 : decode b_X_task 99 = .ok (.getfield 112, 3) := by decide +kernel
theorem d_X_task_102 : decode b_X_task 102 = .ok (.goto 4, 3) := by decide +kernel
theorem d_X_task_105 : decode b_X_task 105 = .ok (.iconst (-1), 1) := by decide +kernel
theorem d_X_task_106 : decode b_X_task 106 = .ok (.ireturn, 1) := by decide +kernel
theorem d_X_task_107 : decode b_X_task 107 = .ok (.aload_n 3, 1) := by decide +kernel
theorem d_X_task_108 : decode b_X_task 108 = .ok (.getfield 144, 3) := by decide +kernel
theorem d_X_task_111 : decode b_X_task 111 = .ok (.iconst 1, 1) := by decide +kernel
theorem d_X_task_112 : decode b_X_task 112 = .ok (.if_icmp .ne 10, 3) := by decide +kernel
theorem d_X_task_115 : decode b_X_task 115 = .ok (.aload_n 3, 1) := by decide +kernel
theorem d_X_task_116 : decode b_X_task 116 = .ok (.getfield 170, 3) := by decide +kernel
theorem d_X_task_119 : decode b_X_task 119 = .ok (.goto 4, 3) := by decide +kernel
theorem d_X_task_122 : decode b_X_task 122 = .ok (.iconst (-1), 1) := by decide +kernel
theorem d_X_task_123 : decode b_X_task 123 = .ok (.ireturn, 1) := by decide +kernel
theorem d_X_task_124 : decode b_X_task 124 = .ok (.aload_n 3, 1) := by decide +kernel
theorem d_X_task_125 : decode b_X_task 125 = .ok (.getfield 144, 3) := by decide +kernel
theorem d_X_task_128 : decode b_X_task 128 = .ok (.iconst 1, 1) := by decide +kernel
theorem d_X_task_129 : decode b_X_task 129 = .ok (.if_icmp .ne 10, 3) := by decide +kernel
theorem d_X_task_132 : decode b_X_task 132 = .ok (.aload_n 3, 1) := by decide +kernel
theorem d_X_task_133 : decode b_X_task 133 = .ok (.getfield 173, 3) := by decide +kernel
theorem d_X_task_136 : decode b_X_task 136 = .ok (.goto 4, 3) := by decide +kernel
theorem d_X_task_139 : decode b_X_task 139 = .ok (.iconst (-1), 1) := by decide +kernel
theorem d_X_task_140 : decode b_X_task 140 = .ok (.ireturn, 1) := by decide +kernel
theorem d_X_task_141 : decode b_X_task 141 = .ok (.aload_n 3, 1) := by decide +kernel
theorem d_X_task_142 : decode b_X_task 142 = .ok (.aload_n 0, 1) := by decide +kernel
theorem d_X_task_143 : decode b_X_task 143 = .ok (.getfield 28, 3) := by decide +kernel
theorem d_X_task_146 : decode b_X_task 146 = .ok (.invokevirtual 176, 3) := by decide +kernel
theorem d_X_task_149 : decode b_X_task 149 = .ok (.ifCond .eq 14, 3) := by decide +kernel
theorem d_X_task_152 : decode b_X_task 152 = .ok (.aload_n 3, 1) := by decide +kernel
theorem d_X_task_153 : decode b_X_task 153 = .ok (.aload_n 0, 1) := by decide +kernel
theorem d_X_task_154 : decode b_X_task 154 = .ok (.getfield 28, 3) := by decide +kernel
theorem d_X_task_157 : decode b_X_task 157 = .ok (.invokevirtual 179, 3) := by decide +kernel
theorem d_X_task_160 : decode b_X_task 160 = .ok (.goto 4, 3) := by decide +kernel
theorem d_X_task_163 : decode b_X_task 163 = .ok (.iconst (-1), 1) := by decide +kernel
theorem d_X_task_164 : decode b_X_task 164 = .ok (.ireturn, 1) := by decide +kernel
theorem d_X_task_165 : decode b_X_task 165 = .ok (.new 115, 3) := by decide +kernel
theorem d_X_task_168 : decode b_X_task 168 = .ok (.dup, 1) := by decide +kernel
theorem d_X_task_169 : decode b_X_task 169 = .ok (.ldc 182, 2) := by decide +kernel
theorem d_X_task_171 : decode b_X_task 171 = .ok (.invokespecial 119, 3) := by decide +kernel
theorem d_X_task_174 : decode b_X_task 174 = .ok (.athrow, 1) := by decide +kernel
theorem d_M_init_0 : decode b_M_init 0 = .ok (.aload_n 0, 1) := by decide +kernel
theorem d_M_init_1 : decode b_M_init 1 = .ok (.invokespecial 1, 3) := by decide +kernel
theorem d_M_init_4 : decode b_M_init 4 = .ok (.aload_n 0, 1) := by decide +kernel
theorem d_M_init_5 : decode b_M_init 5 = .ok (.sipush 400, 3) := by decide +kernel
theorem d_M_init_8 : decode b_M_init 8 = .ok (.newarray .int, 2) := by decide +kernel
theorem d_M_init_10 : decode b_M_init 10 = .ok (.putfield 7, 3) := by decide +kernel
theorem d_M_init_13 : decode b_M_init 13 = .ok (.aload_n 0, 1) := by decide +kernel
theorem d_M_init_14 : decode b_M_init 14 = .ok (.sipush 400, 3) := by decide +kernel
theorem d_M_init_17 : decode b_M_init 17 = .ok (.newarray .int, 2) := by decide +kernel
theorem d_M_init_19 : decode b_M_init 19 = .ok (.putfield 13, 3) := by decide +kernel
theorem d_M_init_22 : decode b_M_init 22 = .ok (.aload_n 0, 1) := by decide +kernel
theorem d_M_init_23 : decode b_M_init 23 = .ok (.sipush 400, 3) := by decide +kernel
theorem d_M_init_26 : decode b_M_init 26 = .ok (.newarray .int, 2) := by decide +kernel
theorem d_M_init_28 : decode b_M_init 28 = .ok (.putfield 16, 3) := by decide +kernel
theorem d_M_init_31 : decode b_M_init 31 = .ok (.aload_n 0, 1) := by decide +kernel
theorem d_M_init_32 : decode b_M_init 32 = .ok (.sipush 400, 3) := by decide +kernel
theorem d_M_init_35 : decode b_M_init 35 = .ok (.newarray .long, 2) := by decide +kernel
theorem d_M_init_37 : decode b_M_init 37 = .ok (.putfield 19, 3) := by decide +kernel
theorem d_M_init_40 : decode b_M_init 40 = .ok (.aload_n 0, 1) := by decide +kernel
theorem d_M_init_41 : decode b_M_init 41 = .ok (.sipush 400, 3) := by decide +kernel
theorem d_M_init_44 : decode b_M_init 44 = .ok (.newarray .int, 2) := by decide +kernel
theorem d_M_init_46 : decode b_M_init 46 = .ok (.putfield 23, 3) := by decide +kernel
theorem d_M_init_49 : decode b_M_init 49 = .ok (.aload_n 0, 1) := by decide +kernel
theorem d_M_init_50 : decode b_M_init 50 = .ok (.sipush 400, 3) := by decide +kernel
theorem d_M_init_53 : decode b_M_init 53 = .ok (.newarray .int, 2) := by decide +kernel
theorem d_M_init_55 : decode b_M_init 55 = .ok (.putfield 26, 3) := by decide +kernel
theorem d_M_init_58 : decode b_M_init 58 = .ok (.aload_n 0, 1) := by decide +kernel
theorem d_M_init_59 : decode b_M_init 59 = .ok (.sipush 400, 3) := by decide +kernel
theorem d_M_init_62 : decode b_M_init 62 = .ok (.newarray .int, 2) := by decide +kernel
theorem d_M_init_64 : decode b_M_init 64 = .ok (.putfield 29, 3) := by decide +kernel
theorem d_M_init_67 : decode b_M_init 67 = .ok (.aload_n 0, 1) := by decide +kernel
theorem d_M_init_68 : decode b_M_init 68 = .ok (.sipush 400, 3) := by decide +kernel
theorem d_M_init_71 : decode b_M_init 71 = .ok (.newarray .int, 2) := by decide +kernel
theorem d_M_init_73 : decode b_M_init 73 = .ok (.putfield 32, 3) := by decide +kernel
theorem d_M_init_76 : decode b_M_init 76 = .ok (.aload_n 0, 1) := by decide +kernel
theorem d_M_init_77 : decode b_M_init 77 = .ok (.sipush 400, 3) := by decide +kernel
theorem d_M_init_80 : decode b_M_init 80 = .ok (.newarray .int, 2) := by decide +kernel
theorem d_M_init_82 : decode b_M_init 82 = .ok (.putfield 35, 3) := by decide +kernel
theorem d_M_init_85 : decode b_M_init 85 = .ok (.aload_n 0, 1) := by decide +kernel
theorem d_M_init_86 : decode b_M_init 86 = .ok (.bipush 24, 2) := by decide +kernel
theorem d_M_init_88 : decode b_M_init 88 = .ok (.newarray .int, 2) := by decide +kernel
theorem d_M_init_90 : decode b_M_init 90 = .ok (.putfield 38, 3) := by decide +kernel
theorem d_M_init_93 : decode b_M_init 93 = .ok (.aload_n 0, 1) := by decide +kernel
theorem d_M_init_94 : decode b_M_init 94 = .ok (.bipush 8, 2) := by decide +kernel
theorem d_M_init_96 : decode b_M_init 96 = .ok (.newarray .int, 2) := by decide +kernel
theorem d_M_init_98 : decode b_M_init 98 = .ok (.putfield 41, 3) := by decide +kernel
theorem d_M_init_101 : decode b_M_init 101 = .ok (.iconst 0, 1) := by decide +kernel
theorem d_M_init_102 : decode b_M_init 102 = .ok (.istore_n 1, 1) := by decide +kernel
theorem d_M_init_103 : decode b_M_init 103 = .ok (.iload_n 1, 1) := by decide +kernel
theorem d_M_init_104 : decode b_M_init 104 = .ok (.iconst 4, 1) := by decide +kernel
theorem d_M_init_105 : decode b_M_init 105 = .ok (.if_icmp .ge 57, 3) := by decide +kernel
theorem d_M_init_108 : decode b_M_init 108 = .ok (.aload_n 0, 1) := by decide +kernel
theorem d_M_init_109 : decode b_M_init 109 = .ok (.getfield 38, 3) := by decide +kernel
theorem d_M_init_112 : decode b_M_init 112 = .ok (.bipush 6, 2) := by decide +kernel
theorem d_M_init_114 : decode b_M_init 114 = .ok (.iload_n 1, 1) := by decide +kernel
theorem d_M_init_115 : decode b_M_init 115 = .ok (.imul, 1) := by decide +kernel
theorem d_M_init_116 : decode b_M_init 116 = .ok (.bipush 10, 2) := by decide +kernel
theorem d_M_init_118 : decode b_M_init 118 = .ok (.iastore, 1) := by decide +kernel
theorem d_M_init_119 : decode b_M_init 119 = .ok (.aload_n 0, 1) := by decide +kernel
theorem d_M_init_120 : decode b_M_init 120 = .ok (.getfield 38, 3) := by decide +kernel
theorem d_M_init_123 : decode b_M_init 123 = .ok (.bipush 6, 2) := by decide +kernel
theorem d_M_init_125 : decode b_M_init 125 = .ok (.iload_n 1, 1) := by decide +kernel
theorem d_M_init_126 : decode b_M_init 126 = .ok (.imul, 1) := by decide +kernel
theorem d_M_init_127 : decode b_M_init 127 = .ok (.iconst 1, 1) := by decide +kernel
theorem d_M_init_128 : decode b_M_init 128 = .ok (.iadd, 1) := by decide +kernel
theorem d_M_init_129 : decode b_M_init 129 = .ok (.iconst 5, 1) := by decide +kernel
theorem d_M_init_130 : decode b_M_init 130 = .ok (.iastore, 1) := by decide +kernel
theorem d_M_init_131 : decode b_M_init 131 = .ok (.aload_n 0, 1) := by decide +kernel
theorem d_M_init_132 : decode b_M_init 132 = .ok (.getfield 38, 3) := by decide +kernel
theorem d_M_init_135 : decode b_M_init 135 = .ok (.bipush 6, 2) := by decide +kernel
theorem d_M_init_137 : decode b_M_init 137 = .ok (.iload_n 1, 1) := by decide +kernel
theorem d_M_init_138 : decode b_M_init 138 = .ok (.imul, 1) := by decide +kernel
theorem d_M_init_139 : decode b_M_init 139 = .ok (.iconst 2, 1) := by decide +kernel
theorem d_M_init_140 : decode b_M_init 140 = .ok (.iadd, 1) := by decide +kernel
theorem d_M_init_141 : decode b_M_init 141 = .ok (.iconst 1, 1) := by decide +kernel
theorem d_M_init_142 : decode b_M_init 142 = .ok (.iastore, 1) := by decide +kernel
theorem d_M_init_143 : decode b_M_init 143 = .ok (.aload_n 0, 1) := by decide +kernel
theorem d_M_init_144 : decode b_M_init 144 = .ok (.getfield 38, 3) := by decide +kernel
theorem d_M_init_147 : decode b_M_init 147 = .ok (.bipush 6, 2) := by decide +kernel
theorem d_M_init_149 : decode b_M_init 149 = .ok (.iload_n 1, 1) := by decide +kernel
theorem d_M_init_150 : decode b_M_init 150 = .ok (.imul, 1) := by decide +kernel
theorem d_M_init_151 : decode b_M_init 151 = .ok (.iconst 3, 1) := by decide +kernel
theorem d_M_init_152 : decode b_M_init 152 = .ok (.iadd, 1) := by decide +kernel
theorem d_M_init_153 : decode b_M_init 153 = .ok (.bipush 60, 2) := by decide +kernel
theorem d_M_init_155 : decode b_M_init 155 = .ok (.iastore, 1) := by decide +kernel
theorem d_M_init_156 : decode b_M_init 156 = .ok (.iinc 1 1, 3) := by decide +kernel
theorem d_M_init_159 : decode b_M_init 159 = .ok (.goto (-56), 3) := by decide +kernel
theorem d_M_init_162 : decode b_M_init 162 = .ok (.iconst 0, 1) := by decide +kernel
theorem d_M_init_163 : decode b_M_init 163 = .ok (.istore_n 1, 1) := by decide +kernel
theorem d_M_init_164 : decode b_M_init 164 = .ok (.iload_n 1, 1) := by decide +kernel
theorem d_M_init_165 : decode b_M_init 165 = .ok (.bipush 8, 2) := by decide +kernel
theorem d_M_init_167 : decode b_M_init 167 = .ok (.if_icmp .ge 17, 3) := by decide +kernel
theorem d_M_init_170 : decode b_M_init 170 = .ok (.aload_n 0, 1) := by decide +kernel
theorem d_M_init_171 : decode b_M_init 171 = .ok (.getfield 41, 3) := by decide +kernel
theorem d_M_init_174 : decode b_M_init 174 = .ok (.iload_n 1, 1) := by decide +kernel
theorem d_M_init_175 : decode b_M_init 175 = .ok (.bipush 8, 2) := by decide +kernel
theorem d_M_init_177 : decode b_M_init 177 = .ok (.iastore, 1) := by decide +kernel
theorem d_M_init_178 : decode b_M_init 178 = .ok (.iinc 1 1, 3) := by decide +kernel
theorem d_M_init_181 : decode b_M_init 181 = .ok (.goto (-17), 3) := by decide +kernel
theorem d_M_init_184 : decode b_M_init 184 = .ok (.return_, 1) := by decide +kernel
theorem d_M_thrown_0 : decode b_M_thrown 0 = .ok (.aload_n 0, 1) := by decide +kernel
theorem d_M_thrown_1 : decode b_M_thrown 1 = .ok (.getfield 44, 3) := by decide +kernel
theorem d_M_thrown_4 : decode b_M_thrown 4 = .ok (.ireturn, 1) := by decide +kernel
theorem d_M_add_0 : decode b_M_add 0 = .ok (.iload_n 1, 1) := by decide +kernel
theorem d_M_add_1 : decode b_M_add 1 = .ok (.iconst 0, 1) := by decide +kernel
theorem d_M_add_2 : decode b_M_add 2 = .ok (.iconst 3, 1) := by decide +kernel
theorem d_M_add_3 : decode b_M_add 3 = .ok (.invokestatic 58, 3) := by decide +kernel
theorem d_M_add_6 : decode b_M_add 6 = .ok (.ifCond .eq 34, 3) := by decide +kernel
theorem d_M_add_9 : decode b_M_add 9 = .ok (.iload_n 2, 1) := by decide +kernel
theorem d_M_add_10 : decode b_M_add 10 = .ok (.iconst 0, 1) := by decide +kernel
theorem d_M_add_11 : decode b_M_add 11 = .ok (.iconst 3, 1) := by decide +kernel
theorem d_M_add_12 : decode b_M_add 12 = .ok (.invokestatic 58, 3) := by decide +kernel
theorem d_M_add_15 : decode b_M_add 15 = .ok (.ifCond .eq 25, 3) := by decide +kernel
theorem d_M_add_18 : decode b_M_add 18 = .ok (.iload_n 3, 1) := by decide +kernel
theorem d_M_add_19 : decode b_M_add 19 = .ok (.iconst (-1), 1) := by decide +kernel
theorem d_M_add_20 : decode b_M_add 20 = .ok (.bipush 7, 2) := by decide +kernel
theorem d_M_add_22 : decode b_M_add 22 = .ok (.invokestatic 58, 3) := by decide +kernel
theorem d_M_add_25 : decode b_M_add 25 = .ok (.ifCond .eq 15, 3) := by decide +kernel
theorem d_M_add_28 : decode b_M_add 28 = .ok (.iload 6, 2) := by decide +kernel
theorem d_M_add_30 : decode b_M_add 30 = .ok (.iconst 0, 1) := by decide +kernel
theorem d_M_add_31 : decode b_M_add 31 = .ok (.sipush 1000, 3) := by decide +kernel
theorem d_M_add_34 : decode b_M_add 34 = .ok (.invokestatic 58, 3) := by decide +kernel
theorem d_M_add_37 : decode b_M_add 37 = .ok (.ifCond .ne 9, 3) := by decide +kernel
theorem d_M_add_40 : decode b_M_add 40 = .ok (.aload_n 0, 1) := by decide +kernel
theorem d_M_add_41 : decode b_M_add 41 = .ok (.iconst 1, 1) := by decide +kernel
theorem d_M_add_42 : decode b_M_add 42 = .ok (.invokevirtual 62, 3) := by decide +kernel
theorem d_M_add_45 : decode b_M_add 45 = .ok (.ireturn, 1) := by decide +kernel
theorem d_M_add_46 : decode b_M_add 46 = .ok (.aload_n 0, 1) := by decide +kernel
theorem d_M_add_47 : decode b_M_add 47 = .ok (.iload_n 1, 1) := by decide +kernel
theorem d_M_add_48 : decode b_M_add 48 = .ok (.lload 4, 2) := by decide +kernel
theorem d_M_add_50 : decode b_M_add 50 = .ok (.invokevirtual 66, 3) := by decide +kernel
theorem d_M_add_53 : decode b_M_add 53 = .ok (.istore 7, 2) := by decide +kernel
theorem d_M_add_55 : decode b_M_add 55 = .ok (.aload_n 0, 1) := by decide +kernel
theorem d_M_add_56 : decode b_M_add 56 = .ok (.iload 7, 2) := by decide +kernel
theorem d_M_add_58 : decode b_M_add 58 = .ok (.iconst (-1), 1) := by decide +kernel
theorem d_M_add_59 : decode b_M_add 59 = .ok (.if_icmp .ne 26, 3) := by decide +kernel
theorem d_M_add_62 : decode b_M_add 62 = .ok (.aload_n 0, 1) := by decide +kernel
theorem d_M_add_63 : decode b_M_add 63 = .ok (.invokevirtual 70, 3) := by decide +kernel
theorem d_M_add_66 : decode b_M_add 66 = .ok (.bipush 64, 2) := by decide +kernel
theorem d_M_add_68 : decode b_M_add 68 = .ok (.if_icmp .eq 13, 3) := by decide +kernel
theorem d_M_add_71 : decode b_M_add 71 = .ok (.aload_n 0, 1) := by decide +kernel
theorem d_M_add_72 : decode b_M_add 72 = .ok (.getfield 48, 3) := by decide +kernel
theorem d_M_add_75 : decode b_M_add 75 = .ok (.sipush 400, 3) := by decide +kernel
theorem d_M_add_78 : decode b_M_add 78 = .ok (.if_icmp .ne 7, 3) := by decide +kernel
theorem d_M_add_81 : decode b_M_add 81 = .ok (.iconst 2, 1) := by decide +kernel
theorem d_M_add_82 : decode b_M_add 82 = .ok (.goto 4, 3) := by decide +kernel
theorem d_M_add_85 : decode b_M_add 85 = .ok (.iconst 0, 1) := by decide +kernel
theorem d_M_add_86 : decode b_M_add 86 = .ok (.putfield 44, 3) := by decide +kernel
theorem d_M_add_89 : decode b_M_add 89 = .ok (.aload_n 0, 1) := by decide +kernel
theorem d_M_add_90 : decode b_M_add 90 = .ok (.getfield 44, 3) := by decide +kernel
theorem d_M_add_93 : decode b_M_add 93 = .ok (.ifCond .le 5, 3) := by decide +kernel
theorem d_M_add_96 : decode b_M_add 96 = .ok (.iconst 0, 1) := by decide +kernel
theorem d_M_add_97 : decode b_M_add 97 = .ok (.ireturn, 1) := by decide +kernel
theorem d_M_add_98 : decode b_M_add 98 = .ok (.iload 7, 2) := by decide +kernel
theorem d_M_add_100 : decode b_M_add 100 = .ok (.iconst (-1), 1) := by decide +kernel
theorem d_M_add_101 : decode b_M_add 101 = .ok (.if_icmp .eq 6, 3) := by decide +kernel
theorem d_M_add_104 : decode b_M_add 104 = .ok (.iload 7, 2) := by decide +kernel
theorem d_M_add_106 : decode b_M_add 106 = .ok (.ireturn, 1) := by decide +kernel
theorem d_M_add_107 : decode b_M_add 107 = .ok (.aload_n 0, 1) := by decide +kernel
theorem d_M_add_108 : decode b_M_add 108 = .ok (.getfield 48, 3) := by decide +kernel
theorem d_M_add_111 : decode b_M_add 111 = .ok (.istore 8, 2) := by decide +kernel
theorem d_M_add_113 : decode b_M_add 113 = .ok (.aload_n 0, 1) := by decide +kernel
theorem d_M_add_114 : decode b_M_add 114 = .ok (.dup, 1) := by decide +kernel
theorem d_M_add_115 : decode b_M_add 115 = .ok (.getfield 48, 3) := by decide +kernel
theorem d_M_add_118 : decode b_M_add 118 = .ok (.iconst 1, 1) := by decide +kernel
theorem d_M_add_119 : decode b_M_add 119 = .ok (.iadd, 1) := by decide +kernel
theorem d_M_add_120 : decode b_M_add 120 = .ok (.putfield 48, 3) := by decide +kernel
theorem d_M_add_123 : decode b_M_add 123 = .ok (.aload_n 0, 1) := by decide +kernel
theorem d_M_add_124 : decode b_M_add 124 = .ok (.getfield 7, 3) := by decide +kernel
theorem d_M_add_127 : decode b_M_add 127 = .ok (.iload 8, 2) := by decide +kernel
theorem d_M_add_129 : decode b_M_add 129 = .ok (.iload_n 1, 1) := by decide +kernel
theorem d_M_add_130 : decode b_M_add 130 = .ok (.iastore, 1) := by decide +kernel
theorem d_M_add_131 : decode b_M_add 131 = .ok (.aload_n 0, 1) := by decide +kernel
theorem d_M_add_132 : decode b_M_add 132 = .ok (.getfield 13, 3) := by decide +kernel
theorem d_M_add_135 : decode b_M_add 135 = .ok (.iload 8, 2) := by decide +kernel
