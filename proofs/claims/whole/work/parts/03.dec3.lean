theorem d_M_add_137 : decode b_M_add 137 = .ok (.iload_n 2, 1) := by decide +kernel
theorem d_M_add_138 : decode b_M_add 138 = .ok (.iastore, 1) := by decide +kernel
theorem d_M_add_139 : decode b_M_add 139 = .ok (.aload_n 0, 1) := by decide +kernel
theorem d_M_add_140 : decode b_M_add 140 = .ok (.getfield 16, 3) := by decide +kernel
theorem d_M_add_143 : decode b_M_add 143 = .ok (.iload 8, 2) := by decide +kernel
theorem d_M_add_145 : decode b_M_add 145 = .ok (.iload_n 3, 1) := by decide +kernel
theorem d_M_add_146 : decode b_M_add 146 = .ok (.iastore, 1) := by decide +kernel
theorem d_M_add_147 : decode b_M_add 147 = .ok (.aload_n 0, 1) := by decide +kernel
theorem d_M_add_148 : decode b_M_add 148 = .ok (.getfield 19, 3) := by decide +kernel
theorem d_M_add_151 : decode b_M_add 151 = .ok (.iload 8, 2) := by decide +kernel
theorem d_M_add_153 : decode b_M_add 153 = .ok (.lload 4, 2) := by decide +kernel
theorem d_M_add_155 : decode b_M_add 155 = .ok (.lastore, 1) := by decide +kernel
theorem d_M_add_156 : decode b_M_add 156 = .ok (.aload_n 0, 1) := by decide +kernel
theorem d_M_add_157 : decode b_M_add 157 = .ok (.getfield 23, 3) := by decide +kernel
theorem d_M_add_160 : decode b_M_add 160 = .ok (.iload 8, 2) := by decide +kernel
theorem d_M_add_162 : decode b_M_add 162 = .ok (.iconst 0, 1) := by decide +kernel
theorem d_M_add_163 : decode b_M_add 163 = .ok (.iastore, 1) := by decide +kernel
theorem d_M_add_164 : decode b_M_add 164 = .ok (.aload_n 0, 1) := by decide +kernel
theorem d_M_add_165 : decode b_M_add 165 = .ok (.getfield 26, 3) := by decide +kernel
theorem d_M_add_168 : decode b_M_add 168 = .ok (.iload 8, 2) := by decide +kernel
theorem d_M_add_170 : decode b_M_add 170 = .ok (.iconst 0, 1) := by decide +kernel
theorem d_M_add_171 : decode b_M_add 171 = .ok (.iastore, 1) := by decide +kernel
theorem d_M_add_172 : decode b_M_add 172 = .ok (.aload_n 0, 1) := by decide +kernel
theorem d_M_add_173 : decode b_M_add 173 = .ok (.getfield 29, 3) := by decide +kernel
theorem d_M_add_176 : decode b_M_add 176 = .ok (.iload 8, 2) := by decide +kernel
theorem d_M_add_178 : decode b_M_add 178 = .ok (.aload_n 0, 1) := by decide +kernel
theorem d_M_add_179 : decode b_M_add 179 = .ok (.getfield 55, 3) := by decide +kernel
theorem d_M_add_182 : decode b_M_add 182 = .ok (.iload 6, 2) := by decide +kernel
theorem d_M_add_184 : decode b_M_add 184 = .ok (.iadd, 1) := by decide +kernel
theorem d_M_add_185 : decode b_M_add 185 = .ok (.iastore, 1) := by decide +kernel
theorem d_M_add_186 : decode b_M_add 186 = .ok (.iload 8, 2) := by decide +kernel
theorem d_M_add_188 : decode b_M_add 188 = .ok (.ireturn, 1) := by decide +kernel
theorem d_M_within_0 : decode b_M_within 0 = .ok (.iload_n 0, 1) := by decide +kernel
theorem d_M_within_1 : decode b_M_within 1 = .ok (.iload_n 1, 1) := by decide +kernel
theorem d_M_within_2 : decode b_M_within 2 = .ok (.if_icmp .lt 12, 3) := by decide +kernel
theorem d_M_within_5 : decode b_M_within 5 = .ok (.iload_n 0, 1) := by decide +kernel
theorem d_M_within_6 : decode b_M_within 6 = .ok (.iload_n 2, 1) := by decide +kernel
theorem d_M_within_7 : decode b_M_within 7 = .ok (.if_icmp .gt 7, 3) := by decide +kernel
theorem d_M_within_10 : decode b_M_within 10 = .ok (.iconst 1, 1) := by decide +kernel
theorem d_M_within_11 : decode b_M_within 11 = .ok (.goto 4, 3) := by decide +kernel
theorem d_M_within_14 : decode b_M_within 14 = .ok (.iconst 0, 1) := by decide +kernel
theorem d_M_within_15 : decode b_M_within 15 = .ok (.ireturn, 1) := by decide +kernel
theorem d_M_raise_0 : decode b_M_raise 0 = .ok (.aload_n 0, 1) := by decide +kernel
theorem d_M_raise_1 : decode b_M_raise 1 = .ok (.iload_n 1, 1) := by decide +kernel
theorem d_M_raise_2 : decode b_M_raise 2 = .ok (.putfield 44, 3) := by decide +kernel
theorem d_M_raise_5 : decode b_M_raise 5 = .ok (.iconst 0, 1) := by decide +kernel
theorem d_M_raise_6 : decode b_M_raise 6 = .ok (.ireturn, 1) := by decide +kernel
theorem d_M_found_0 : decode b_M_found 0 = .ok (.aload_n 0, 1) := by decide +kernel
theorem d_M_found_1 : decode b_M_found 1 = .ok (.getfield 48, 3) := by decide +kernel
theorem d_M_found_4 : decode b_M_found 4 = .ok (.iconst 1, 1) := by decide +kernel
theorem d_M_found_5 : decode b_M_found 5 = .ok (.isub, 1) := by decide +kernel
theorem d_M_found_6 : decode b_M_found 6 = .ok (.istore 4, 2) := by decide +kernel
theorem d_M_found_8 : decode b_M_found 8 = .ok (.iload 4, 2) := by decide +kernel
theorem d_M_found_10 : decode b_M_found 10 = .ok (.ifCond .lt 90, 3) := by decide +kernel
theorem d_M_found_13 : decode b_M_found 13 = .ok (.aload_n 0, 1) := by decide +kernel
theorem d_M_found_14 : decode b_M_found 14 = .ok (.getfield 7, 3) := by decide +kernel
theorem d_M_found_17 : decode b_M_found 17 = .ok (.iload 4, 2) := by decide +kernel
theorem d_M_found_19 : decode b_M_found 19 = .ok (.iaload, 1) := by decide +kernel
theorem d_M_found_20 : decode b_M_found 20 = .ok (.iload_n 1, 1) := by decide +kernel
theorem d_M_found_21 : decode b_M_found 21 = .ok (.if_icmp .ne 73, 3) := by decide +kernel
theorem d_M_found_24 : decode b_M_found 24 = .ok (.aload_n 0, 1) := by decide +kernel
theorem d_M_found_25 : decode b_M_found 25 = .ok (.getfield 19, 3) := by decide +kernel
theorem d_M_found_28 : decode b_M_found 28 = .ok (.iload 4, 2) := by decide +kernel
theorem d_M_found_30 : decode b_M_found 30 = .ok (.laload, 1) := by decide +kernel
theorem d_M_found_31 : decode b_M_found 31 = .ok (.lload_n 2, 1) := by decide +kernel
theorem d_M_found_32 : decode b_M_found 32 = .ok (.lcmp, 1) := by decide +kernel
theorem d_M_found_33 : decode b_M_found 33 = .ok (.ifCond .ne 61, 3) := by decide +kernel
theorem d_M_found_36 : decode b_M_found 36 = .ok (.lload_n 2, 1) := by decide +kernel
theorem d_M_found_37 : decode b_M_found 37 = .ok (.lconst 0, 1) := by decide +kernel
theorem d_M_found_38 : decode b_M_found 38 = .ok (.lcmp, 1) := by decide +kernel
theorem d_M_found_39 : decode b_M_found 39 = .ok (.ifCond .ne 6, 3) := by decide +kernel
theorem d_M_found_42 : decode b_M_found 42 = .ok (.goto 52, 3) := by decide +kernel
theorem d_M_found_45 : decode b_M_found 45 = .ok (.aload_n 0, 1) := by decide +kernel
theorem d_M_found_46 : decode b_M_found 46 = .ok (.iload 4, 2) := by decide +kernel
theorem d_M_found_48 : decode b_M_found 48 = .ok (.invokevirtual 51, 3) := by decide +kernel
theorem d_M_found_51 : decode b_M_found 51 = .ok (.ifCond .ne 40, 3) := by decide +kernel
theorem d_M_found_54 : decode b_M_found 54 = .ok (.aload_n 0, 1) := by decide +kernel
theorem d_M_found_55 : decode b_M_found 55 = .ok (.getfield 26, 3) := by decide +kernel
theorem d_M_found_58 : decode b_M_found 58 = .ok (.iload 4, 2) := by decide +kernel
theorem d_M_found_60 : decode b_M_found 60 = .ok (.iaload, 1) := by decide +kernel
theorem d_M_found_61 : decode b_M_found 61 = .ok (.iconst 2, 1) := by decide +kernel
theorem d_M_found_62 : decode b_M_found 62 = .ok (.if_icmp .ne 32, 3) := by decide +kernel
theorem d_M_found_65 : decode b_M_found 65 = .ok (.aload_n 0, 1) := by decide +kernel
theorem d_M_found_66 : decode b_M_found 66 = .ok (.getfield 55, 3) := by decide +kernel
theorem d_M_found_69 : decode b_M_found 69 = .ok (.aload_n 0, 1) := by decide +kernel
theorem d_M_found_70 : decode b_M_found 70 = .ok (.getfield 29, 3) := by decide +kernel
theorem d_M_found_73 : decode b_M_found 73 = .ok (.iload 4, 2) := by decide +kernel
theorem d_M_found_75 : decode b_M_found 75 = .ok (.iaload, 1) := by decide +kernel
theorem d_M_found_76 : decode b_M_found 76 = .ok (.isub, 1) := by decide +kernel
theorem d_M_found_77 : decode b_M_found 77 = .ok (.aload_n 0, 1) := by decide +kernel
theorem d_M_found_78 : decode b_M_found 78 = .ok (.getfield 38, 3) := by decide +kernel
theorem d_M_found_81 : decode b_M_found 81 = .ok (.bipush 6, 2) := by decide +kernel
theorem d_M_found_83 : decode b_M_found 83 = .ok (.iload_n 1, 1) := by decide +kernel
theorem d_M_found_84 : decode b_M_found 84 = .ok (.imul, 1) := by decide +kernel
theorem d_M_found_85 : decode b_M_found 85 = .ok (.iconst 5, 1) := by decide +kernel
theorem d_M_found_86 : decode b_M_found 86 = .ok (.iadd, 1) := by decide +kernel
theorem d_M_found_87 : decode b_M_found 87 = .ok (.iaload, 1) := by decide +kernel
theorem d_M_found_88 : decode b_M_found 88 = .ok (.if_icmp .gt 6, 3) := by decide +kernel
theorem d_M_found_91 : decode b_M_found 91 = .ok (.iload 4, 2) := by decide +kernel
theorem d_M_found_93 : decode b_M_found 93 = .ok (.ireturn, 1) := by decide +kernel
theorem d_M_found_94 : decode b_M_found 94 = .ok (.iinc 4 (-1), 3) := by decide +kernel
theorem d_M_found_97 : decode b_M_found 97 = .ok (.goto (-89), 3) := by decide +kernel
theorem d_M_found_100 : decode b_M_found 100 = .ok (.iconst (-1), 1) := by decide +kernel
theorem d_M_found_101 : decode b_M_found 101 = .ok (.ireturn, 1) := by decide +kernel
theorem d_M_isLive_0 : decode b_M_isLive 0 = .ok (.aload_n 0, 1) := by decide +kernel
theorem d_M_isLive_1 : decode b_M_isLive 1 = .ok (.getfield 26, 3) := by decide +kernel
theorem d_M_isLive_4 : decode b_M_isLive 4 = .ok (.iload_n 1, 1) := by decide +kernel
theorem d_M_isLive_5 : decode b_M_isLive 5 = .ok (.iaload, 1) := by decide +kernel
theorem d_M_isLive_6 : decode b_M_isLive 6 = .ok (.ifCond .eq 13, 3) := by decide +kernel
theorem d_M_isLive_9 : decode b_M_isLive 9 = .ok (.aload_n 0, 1) := by decide +kernel
theorem d_M_isLive_10 : decode b_M_isLive 10 = .ok (.getfield 26, 3) := by decide +kernel
theorem d_M_isLive_13 : decode b_M_isLive 13 = .ok (.iload_n 1, 1) := by decide +kernel
theorem d_M_isLive_14 : decode b_M_isLive 14 = .ok (.iaload, 1) := by decide +kernel
theorem d_M_isLive_15 : decode b_M_isLive 15 = .ok (.iconst 1, 1) := by decide +kernel
theorem d_M_isLive_16 : decode b_M_isLive 16 = .ok (.if_icmp .ne 7, 3) := by decide +kernel
theorem d_M_isLive_19 : decode b_M_isLive 19 = .ok (.iconst 1, 1) := by decide +kernel
theorem d_M_isLive_20 : decode b_M_isLive 20 = .ok (.goto 4, 3) := by decide +kernel
theorem d_M_isLive_23 : decode b_M_isLive 23 = .ok (.iconst 0, 1) := by decide +kernel
theorem d_M_isLive_24 : decode b_M_isLive 24 = .ok (.ireturn, 1) := by decide +kernel
theorem d_M_lives_0 : decode b_M_lives 0 = .ok (.iconst 0, 1) := by decide +kernel
theorem d_M_lives_1 : decode b_M_lives 1 = .ok (.istore_n 1, 1) := by decide +kernel
theorem d_M_lives_2 : decode b_M_lives 2 = .ok (.iconst 0, 1) := by decide +kernel
theorem d_M_lives_3 : decode b_M_lives 3 = .ok (.istore_n 2, 1) := by decide +kernel
theorem d_M_lives_4 : decode b_M_lives 4 = .ok (.iload_n 2, 1) := by decide +kernel
theorem d_M_lives_5 : decode b_M_lives 5 = .ok (.aload_n 0, 1) := by decide +kernel
theorem d_M_lives_6 : decode b_M_lives 6 = .ok (.getfield 48, 3) := by decide +kernel
theorem d_M_lives_9 : decode b_M_lives 9 = .ok (.if_icmp .ge 25, 3) := by decide +kernel
theorem d_M_lives_12 : decode b_M_lives 12 = .ok (.iload_n 1, 1) := by decide +kernel
theorem d_M_lives_13 : decode b_M_lives 13 = .ok (.aload_n 0, 1) := by decide +kernel
theorem d_M_lives_14 : decode b_M_lives 14 = .ok (.iload_n 2, 1) := by decide +kernel
theorem d_M_lives_15 : decode b_M_lives 15 = .ok (.invokevirtual 51, 3) := by decide +kernel
theorem d_M_lives_18 : decode b_M_lives 18 = .ok (.ifCond .eq 7, 3) := by decide +kernel
theorem d_M_lives_21 : decode b_M_lives 21 = .ok (.iconst 1, 1) := by decide +kernel
theorem d_M_lives_22 : decode b_M_lives 22 = .ok (.goto 4, 3) := by decide +kernel
theorem d_M_lives_25 : decode b_M_lives 25 = .ok (.iconst 0, 1) := by decide +kernel
theorem d_M_lives_26 : decode b_M_lives 26 = .ok (.iadd, 1) := by decide +kernel
theorem d_M_lives_27 : decode b_M_lives 27 = .ok (.istore_n 1, 1) := by decide +kernel
theorem d_M_lives_28 : decode b_M_lives 28 = .ok (.iinc 2 1, 3) := by decide +kernel
theorem d_M_lives_31 : decode b_M_lives 31 = .ok (.goto (-27), 3) := by decide +kernel
theorem d_M_lives_34 : decode b_M_lives 34 = .ok (.iload_n 1, 1) := by decide +kernel
theorem d_M_lives_35 : decode b_M_lives 35 = .ok (.ireturn, 1) := by decide +kernel
theorem d_M_lend_0 : decode b_M_lend 0 = .ok (.iload_n 1, 1) := by decide +kernel
theorem d_M_lend_1 : decode b_M_lend 1 = .ok (.iconst 0, 1) := by decide +kernel
theorem d_M_lend_2 : decode b_M_lend 2 = .ok (.bipush 7, 2) := by decide +kernel
theorem d_M_lend_4 : decode b_M_lend 4 = .ok (.invokestatic 58, 3) := by decide +kernel
theorem d_M_lend_7 : decode b_M_lend 7 = .ok (.ifCond .eq 12, 3) := by decide +kernel
theorem d_M_lend_10 : decode b_M_lend 10 = .ok (.iload_n 2, 1) := by decide +kernel
theorem d_M_lend_11 : decode b_M_lend 11 = .ok (.iconst 0, 1) := by decide +kernel
theorem d_M_lend_12 : decode b_M_lend 12 = .ok (.iconst 3, 1) := by decide +kernel
theorem d_M_lend_13 : decode b_M_lend 13 = .ok (.invokestatic 58, 3) := by decide +kernel
theorem d_M_lend_16 : decode b_M_lend 16 = .ok (.ifCond .ne 9, 3) := by decide +kernel
theorem d_M_lend_19 : decode b_M_lend 19 = .ok (.aload_n 0, 1) := by decide +kernel
theorem d_M_lend_20 : decode b_M_lend 20 = .ok (.iconst 1, 1) := by decide +kernel
theorem d_M_lend_21 : decode b_M_lend 21 = .ok (.invokevirtual 62, 3) := by decide +kernel
theorem d_M_lend_24 : decode b_M_lend 24 = .ok (.ireturn, 1) := by decide +kernel
theorem d_M_lend_25 : decode b_M_lend 25 = .ok (.aload_n 0, 1) := by decide +kernel
theorem d_M_lend_26 : decode b_M_lend 26 = .ok (.iconst 0, 1) := by decide +kernel
theorem d_M_lend_27 : decode b_M_lend 27 = .ok (.putfield 44, 3) := by decide +kernel
theorem d_M_lend_30 : decode b_M_lend 30 = .ok (.aload_n 0, 1) := by decide +kernel
theorem d_M_lend_31 : decode b_M_lend 31 = .ok (.iload_n 2, 1) := by decide +kernel
theorem d_M_lend_32 : decode b_M_lend 32 = .ok (.invokevirtual 83, 3) := by decide +kernel
theorem d_M_lend_35 : decode b_M_lend 35 = .ok (.istore_n 3, 1) := by decide +kernel
theorem d_M_lend_36 : decode b_M_lend 36 = .ok (.iload_n 3, 1) := by decide +kernel
theorem d_M_lend_37 : decode b_M_lend 37 = .ok (.iconst (-1), 1) := by decide +kernel
theorem d_M_lend_38 : decode b_M_lend 38 = .ok (.if_icmp .eq 12, 3) := by decide +kernel
theorem d_M_lend_41 : decode b_M_lend 41 = .ok (.aload_n 0, 1) := by decide +kernel
theorem d_M_lend_42 : decode b_M_lend 42 = .ok (.iload_n 1, 1) := by decide +kernel
theorem d_M_lend_43 : decode b_M_lend 43 = .ok (.invokevirtual 86, 3) := by decide +kernel
theorem d_M_lend_46 : decode b_M_lend 46 = .ok (.iconst 4, 1) := by decide +kernel
theorem d_M_lend_47 : decode b_M_lend 47 = .ok (.if_icmp .ne 5, 3) := by decide +kernel
theorem d_M_lend_50 : decode b_M_lend 50 = .ok (.iconst (-1), 1) := by decide +kernel
theorem d_M_lend_51 : decode b_M_lend 51 = .ok (.ireturn, 1) := by decide +kernel
theorem d_M_lend_52 : decode b_M_lend 52 = .ok (.aload_n 0, 1) := by decide +kernel
theorem d_M_lend_53 : decode b_M_lend 53 = .ok (.getfield 26, 3) := by decide +kernel
theorem d_M_lend_56 : decode b_M_lend 56 = .ok (.iload_n 3, 1) := by decide +kernel
theorem d_M_lend_57 : decode b_M_lend 57 = .ok (.iconst 1, 1) := by decide +kernel
theorem d_M_lend_58 : decode b_M_lend 58 = .ok (.iastore, 1) := by decide +kernel
theorem d_M_lend_59 : decode b_M_lend 59 = .ok (.aload_n 0, 1) := by decide +kernel
theorem d_M_lend_60 : decode b_M_lend 60 = .ok (.getfield 32, 3) := by decide +kernel
theorem d_M_lend_63 : decode b_M_lend 63 = .ok (.iload_n 3, 1) := by decide +kernel
theorem d_M_lend_64 : decode b_M_lend 64 = .ok (.iload_n 1, 1) := by decide +kernel
theorem d_M_lend_65 : decode b_M_lend 65 = .ok (.iastore, 1) := by decide +kernel
theorem d_M_lend_66 : decode b_M_lend 66 = .ok (.aload_n 0, 1) := by decide +kernel
theorem d_M_lend_67 : decode b_M_lend 67 = .ok (.getfield 35, 3) := by decide +kernel
theorem d_M_lend_70 : decode b_M_lend 70 = .ok (.iload_n 3, 1) := by decide +kernel
theorem d_M_lend_71 : decode b_M_lend 71 = .ok (.aload_n 0, 1) := by decide +kernel
theorem d_M_lend_72 : decode b_M_lend 72 = .ok (.getfield 89, 3) := by decide +kernel
theorem d_M_lend_75 : decode b_M_lend 75 = .ok (.iastore, 1) := by decide +kernel
theorem d_M_lend_76 : decode b_M_lend 76 = .ok (.aload_n 0, 1) := by decide +kernel
theorem d_M_lend_77 : decode b_M_lend 77 = .ok (.dup, 1) := by decide +kernel
theorem d_M_lend_78 : decode b_M_lend 78 = .ok (.getfield 89, 3) := by decide +kernel
theorem d_M_lend_81 : decode b_M_lend 81 = .ok (.iconst 1, 1) := by decide +kernel
theorem d_M_lend_82 : decode b_M_lend 82 = .ok (.iadd, 1) := by decide +kernel
theorem d_M_lend_83 : decode b_M_lend 83 = .ok (.putfield 89, 3) := by decide +kernel
theorem d_M_lend_86 : decode b_M_lend 86 = .ok (.aload_n 0, 1) := by decide +kernel
theorem d_M_lend_87 : decode b_M_lend 87 = .ok (.getfield 23, 3) := by decide +kernel
theorem d_M_lend_90 : decode b_M_lend 90 = .ok (.iload_n 3, 1) := by decide +kernel
theorem d_M_lend_91 : decode b_M_lend 91 = .ok (.dup2, 1) := by decide +kernel
theorem d_M_lend_92 : decode b_M_lend 92 = .ok (.iaload, 1) := by decide +kernel
theorem d_M_lend_93 : decode b_M_lend 93 = .ok (.iconst 1, 1) := by decide +kernel
theorem d_M_lend_94 : decode b_M_lend 94 = .ok (.iadd, 1) := by decide +kernel
theorem d_M_lend_95 : decode b_M_lend 95 = .ok (.iastore, 1) := by decide +kernel
theorem d_M_lend_96 : decode b_M_lend 96 = .ok (.aload_n 0, 1) := by decide +kernel
theorem d_M_lend_97 : decode b_M_lend 97 = .ok (.getfield 29, 3) := by decide +kernel
theorem d_M_lend_100 : decode b_M_lend 100 = .ok (.iload_n 3, 1) := by decide +kernel
theorem d_M_lend_101 : decode b_M_lend 101 = .ok (.aload_n 0, 1) := by decide +kernel
theorem d_M_lend_102 : decode b_M_lend 102 = .ok (.getfield 55, 3) := by decide +kernel
theorem d_M_lend_105 : decode b_M_lend 105 = .ok (.aload_n 0, 1) := by decide +kernel
theorem d_M_lend_106 : decode b_M_lend 106 = .ok (.getfield 38, 3) := by decide +kernel
theorem d_M_lend_109 : decode b_M_lend 109 = .ok (.bipush 6, 2) := by decide +kernel
theorem d_M_lend_111 : decode b_M_lend 111 = .ok (.iload_n 2, 1) := by decide +kernel
theorem d_M_lend_112 : decode b_M_lend 112 = .ok (.imul, 1) := by decide +kernel
theorem d_M_lend_113 : decode b_M_lend 113 = .ok (.iaload, 1) := by decide +kernel
theorem d_M_lend_114 : decode b_M_lend 114 = .ok (.iadd, 1) := by decide +kernel
theorem d_M_lend_115 : decode b_M_lend 115 = .ok (.iastore, 1) := by decide +kernel
theorem d_M_lend_116 : decode b_M_lend 116 = .ok (.aload_n 0, 1) := by decide +kernel
theorem d_M_lend_117 : decode b_M_lend 117 = .ok (.getfield 35, 3) := by decide +kernel
theorem d_M_lend_120 : decode b_M_lend 120 = .ok (.iload_n 3, 1) := by decide +kernel
theorem d_M_lend_121 : decode b_M_lend 121 = .ok (.iaload, 1) := by decide +kernel
theorem d_M_lend_122 : decode b_M_lend 122 = .ok (.ireturn, 1) := by decide +kernel
theorem d_M_firstOf_0 : decode b_M_firstOf 0 = .ok (.iconst (-1), 1) := by decide +kernel
theorem d_M_firstOf_1 : decode b_M_firstOf 1 = .ok (.istore_n 2, 1) := by decide +kernel
theorem d_M_firstOf_2 : decode b_M_firstOf 2 = .ok (.iconst 0, 1) := by decide +kernel
theorem d_M_firstOf_3 : decode b_M_firstOf 3 = .ok (.istore_n 3, 1) := by decide +kernel
theorem d_M_firstOf_4 : decode b_M_firstOf 4 = .ok (.iload_n 3, 1) := by decide +kernel
theorem d_M_firstOf_5 : decode b_M_firstOf 5 = .ok (.aload_n 0, 1) := by decide +kernel
theorem d_M_firstOf_6 : decode b_M_firstOf 6 = .ok (.getfield 48, 3) := by decide +kernel
theorem d_M_firstOf_9 : decode b_M_firstOf 9 = .ok (.if_icmp .ge 78, 3) := by decide +kernel
theorem d_M_firstOf_12 : decode b_M_firstOf 12 = .ok (.aload_n 0, 1) := by decide +kernel
theorem d_M_firstOf_13 : decode b_M_firstOf 13 = .ok (.getfield 7, 3) := by decide +kernel
theorem d_M_firstOf_16 : decode b_M_firstOf 16 = .ok (.iload_n 3, 1) := by decide +kernel
theorem d_M_firstOf_17 : decode b_M_firstOf 17 = .ok (.iaload, 1) := by decide +kernel
theorem d_M_firstOf_18 : decode b_M_firstOf 18 = .ok (.iload_n 1, 1) := by decide +kernel
theorem d_M_firstOf_19 : decode b_M_firstOf 19 = .ok (.if_icmp .ne 62, 3) := by decide +kernel
theorem d_M_firstOf_22 : decode b_M_firstOf 22 = .ok (.aload_n 0, 1) := by decide +kernel
theorem d_M_firstOf_23 : decode b_M_firstOf 23 = .ok (.iload_n 3, 1) := by decide +kernel
theorem d_M_firstOf_24 : decode b_M_firstOf 24 = .ok (.invokevirtual 77, 3) := by decide +kernel
theorem d_M_firstOf_27 : decode b_M_firstOf 27 = .ok (.ifCond .ne 6, 3) := by decide +kernel
theorem d_M_firstOf_30 : decode b_M_firstOf 30 = .ok (.goto 51, 3) := by decide +kernel
theorem d_M_firstOf_33 : decode b_M_firstOf 33 = .ok (.iload_n 2, 1) := by decide +kernel
theorem d_M_firstOf_34 : decode b_M_firstOf 34 = .ok (.iconst (-1), 1) := by decide +kernel
theorem d_M_firstOf_35 : decode b_M_firstOf 35 = .ok (.if_icmp .eq 44, 3) := by decide +kernel
theorem d_M_firstOf_38 : decode b_M_firstOf 38 = .ok (.aload_n 0, 1) := by decide +kernel
theorem d_M_firstOf_39 : decode b_M_firstOf 39 = .ok (.iload_n 3, 1) := by decide +kernel
theorem d_M_firstOf_40 : decode b_M_firstOf 40 = .ok (.invokevirtual 80, 3) := by decide +kernel
theorem d_M_firstOf_43 : decode b_M_firstOf 43 = .ok (.aload_n 0, 1) := by decide +kernel
theorem d_M_firstOf_44 : decode b_M_firstOf 44 = .ok (.iload_n 2, 1) := by decide +kernel
theorem d_M_firstOf_45 : decode b_M_firstOf 45 = .ok (.invokevirtual 80, 3) := by decide +kernel
theorem d_M_firstOf_48 : decode b_M_firstOf 48 = .ok (.if_icmp .gt 31, 3) := by decide +kernel
theorem d_M_firstOf_51 : decode b_M_firstOf 51 = .ok (.aload_n 0, 1) := by decide +kernel
theorem d_M_firstOf_52 : decode b_M_firstOf 52 = .ok (.iload_n 3, 1) := by decide +kernel
theorem d_M_firstOf_53 : decode b_M_firstOf 53 = .ok (.invokevirtual 80, 3) := by decide +kernel
theorem d_M_firstOf_56 : decode b_M_firstOf 56 = .ok (.aload_n 0, 1) := by decide +kernel
theorem d_M_firstOf_57 : decode b_M_firstOf 57 = .ok (.iload_n 2, 1) := by decide +kernel
theorem d_M_firstOf_58 : decode b_M_firstOf 58 = .ok (.invokevirtual 80, 3) := by decide +kernel
theorem d_M_firstOf_61 : decode b_M_firstOf 61 = .ok (.if_icmp .ne 20, 3) := by decide +kernel
theorem d_M_firstOf_64 : decode b_M_firstOf 64 = .ok (.aload_n 0, 1) := by decide +kernel
theorem d_M_firstOf_65 : decode b_M_firstOf 65 = .ok (.getfield 29, 3) := by decide +kernel
theorem d_M_firstOf_68 : decode b_M_firstOf 68 = .ok (.iload_n 3, 1) := by decide +kernel
theorem d_M_firstOf_69 : decode b_M_firstOf 69 = .ok (.iaload, 1) := by decide +kernel
theorem d_M_firstOf_70 : decode b_M_firstOf 70 = .ok (.aload_n 0, 1) := by decide +kernel
theorem d_M_firstOf_71 : decode b_M_firstOf 71 = .ok (.getfield 29, 3) := by decide +kernel
theorem d_M_firstOf_74 : decode b_M_firstOf 74 = .ok (.iload_n 2, 1) := by decide +kernel
theorem d_M_firstOf_75 : decode b_M_firstOf 75 = .ok (.iaload, 1) := by decide +kernel
theorem d_M_firstOf_76 : decode b_M_firstOf 76 = .ok (.if_icmp .ge 5, 3) := by decide +kernel
theorem d_M_firstOf_79 : decode b_M_firstOf 79 = .ok (.iload_n 3, 1) := by decide +kernel
theorem d_M_firstOf_80 : decode b_M_firstOf 80 = .ok (.istore_n 2, 1) := by decide +kernel
theorem d_M_firstOf_81 : decode b_M_firstOf 81 = .ok (.iinc 3 1, 3) := by decide +kernel
theorem d_M_firstOf_84 : decode b_M_firstOf 84 = .ok (.goto (-80), 3) := by decide +kernel
theorem d_M_firstOf_87 : decode b_M_firstOf 87 = .ok (.iload_n 2, 1) := by decide +kernel
theorem d_M_firstOf_88 : decode b_M_firstOf 88 = .ok (.ireturn, 1) := by decide +kernel
theorem d_M_mayBeHad_0 : decode b_M_mayBeHad 0 = .ok (.aload_n 0, 1) := by decide +kernel
theorem d_M_mayBeHad_1 : decode b_M_mayBeHad 1 = .ok (.getfield 26, 3) := by decide +kernel
theorem d_M_mayBeHad_4 : decode b_M_mayBeHad 4 = .ok (.iload_n 1, 1) := by decide +kernel
theorem d_M_mayBeHad_5 : decode b_M_mayBeHad 5 = .ok (.iaload, 1) := by decide +kernel
theorem d_M_mayBeHad_6 : decode b_M_mayBeHad 6 = .ok (.ifCond .ne 54, 3) := by decide +kernel
theorem d_M_mayBeHad_9 : decode b_M_mayBeHad 9 = .ok (.aload_n 0, 1) := by decide +kernel
theorem d_M_mayBeHad_10 : decode b_M_mayBeHad 10 = .ok (.getfield 29, 3) := by decide +kernel
theorem d_M_mayBeHad_13 : decode b_M_mayBeHad 13 = .ok (.iload_n 1, 1) := by decide +kernel
theorem d_M_mayBeHad_14 : decode b_M_mayBeHad 14 = .ok (.iaload, 1) := by decide +kernel
theorem d_M_mayBeHad_15 : decode b_M_mayBeHad 15 = .ok (.aload_n 0, 1) := by decide +kernel
theorem d_M_mayBeHad_16 : decode b_M_mayBeHad 16 = .ok (.getfield 55, 3) := by decide +kernel
theorem d_M_mayBeHad_19 : decode b_M_mayBeHad 19 = .ok (.if_icmp .gt 41, 3) := by decide +kernel
theorem d_M_mayBeHad_22 : decode b_M_mayBeHad 22 = .ok (.aload_n 0, 1) := by decide +kernel
theorem d_M_mayBeHad_23 : decode b_M_mayBeHad 23 = .ok (.getfield 16, 3) := by decide +kernel
theorem d_M_mayBeHad_26 : decode b_M_mayBeHad 26 = .ok (.iload_n 1, 1) := by decide +kernel
theorem d_M_mayBeHad_27 : decode b_M_mayBeHad 27 = .ok (.iaload, 1) := by decide +kernel
theorem d_M_mayBeHad_28 : decode b_M_mayBeHad 28 = .ok (.iconst (-1), 1) := by decide +kernel
theorem d_M_mayBeHad_29 : decode b_M_mayBeHad 29 = .ok (.if_icmp .eq 27, 3) := by decide +kernel
theorem d_M_mayBeHad_32 : decode b_M_mayBeHad 32 = .ok (.aload_n 0, 1) := by decide +kernel
theorem d_M_mayBeHad_33 : decode b_M_mayBeHad 33 = .ok (.aload_n 0, 1) := by decide +kernel
theorem d_M_mayBeHad_34 : decode b_M_mayBeHad 34 = .ok (.getfield 16, 3) := by decide +kernel
theorem d_M_mayBeHad_37 : decode b_M_mayBeHad 37 = .ok (.iload_n 1, 1) := by decide +kernel
theorem d_M_mayBeHad_38 : decode b_M_mayBeHad 38 = .ok (.iaload, 1) := by decide +kernel
theorem d_M_mayBeHad_39 : decode b_M_mayBeHad 39 = .ok (.invokevirtual 74, 3) := by decide +kernel
theorem d_M_mayBeHad_42 : decode b_M_mayBeHad 42 = .ok (.aload_n 0, 1) := by decide +kernel
theorem d_M_mayBeHad_43 : decode b_M_mayBeHad 43 = .ok (.getfield 41, 3) := by decide +kernel
theorem d_M_mayBeHad_46 : decode b_M_mayBeHad 46 = .ok (.aload_n 0, 1) := by decide +kernel
theorem d_M_mayBeHad_47 : decode b_M_mayBeHad 47 = .ok (.getfield 16, 3) := by decide +kernel
theorem d_M_mayBeHad_50 : decode b_M_mayBeHad 50 = .ok (.iload_n 1, 1) := by decide +kernel
theorem d_M_mayBeHad_51 : decode b_M_mayBeHad 51 = .ok (.iaload, 1) := by decide +kernel
theorem d_M_mayBeHad_52 : decode b_M_mayBeHad 52 = .ok (.iaload, 1) := by decide +kernel
theorem d_M_mayBeHad_53 : decode b_M_mayBeHad 53 = .ok (.if_icmp .ge 7, 3) := by decide +kernel
theorem d_M_mayBeHad_56 : decode b_M_mayBeHad 56 = .ok (.iconst 1, 1) := by decide +kernel
theorem d_M_mayBeHad_57 : decode b_M_mayBeHad 57 = .ok (.goto 4, 3) := by decide +kernel
theorem d_M_mayBeHad_60 : decode b_M_mayBeHad 60 = .ok (.iconst 0, 1) := by decide +kernel
theorem d_M_mayBeHad_61 : decode b_M_mayBeHad 61 = .ok (.ireturn, 1) := by decide +kernel
theorem d_M_lentOf_0 : decode b_M_lentOf 0 = .ok (.iconst 0, 1) := by decide +kernel
theorem d_M_lentOf_1 : decode b_M_lentOf 1 = .ok (.istore_n 2, 1) := by decide +kernel
theorem d_M_lentOf_2 : decode b_M_lentOf 2 = .ok (.iconst 0, 1) := by decide +kernel
theorem d_M_lentOf_3 : decode b_M_lentOf 3 = .ok (.istore_n 3, 1) := by decide +kernel
theorem d_M_lentOf_4 : decode b_M_lentOf 4 = .ok (.iload_n 3, 1) := by decide +kernel
theorem d_M_lentOf_5 : decode b_M_lentOf 5 = .ok (.aload_n 0, 1) := by decide +kernel
theorem d_M_lentOf_6 : decode b_M_lentOf 6 = .ok (.getfield 48, 3) := by decide +kernel
theorem d_M_lentOf_9 : decode b_M_lentOf 9 = .ok (.if_icmp .ge 37, 3) := by decide +kernel
theorem d_M_lentOf_12 : decode b_M_lentOf 12 = .ok (.iload_n 2, 1) := by decide +kernel
theorem d_M_lentOf_13 : decode b_M_lentOf 13 = .ok (.aload_n 0, 1) := by decide +kernel
theorem d_M_lentOf_14 : decode b_M_lentOf 14 = .ok (.getfield 26, 3) := by decide +kernel
theorem d_M_lentOf_17 : decode b_M_lentOf 17 = .ok (.iload_n 3, 1) := by decide +kernel
theorem d_M_lentOf_18 : decode b_M_lentOf 18 = .ok (.iaload, 1) := by decide +kernel
theorem d_M_lentOf_19 : decode b_M_lentOf 19 = .ok (.iconst 1, 1) := by decide +kernel
theorem d_M_lentOf_20 : decode b_M_lentOf 20 = .ok (.if_icmp .ne 17, 3) := by decide +kernel
theorem d_M_lentOf_23 : decode b_M_lentOf 23 = .ok (.aload_n 0, 1) := by decide +kernel
theorem d_M_lentOf_24 : decode b_M_lentOf 24 = .ok (.getfield 16, 3) := by decide +kernel
theorem d_M_lentOf_27 : decode b_M_lentOf 27 = .ok (.iload_n 3, 1) := by decide +kernel
theorem d_M_lentOf_28 : decode b_M_lentOf 28 = .ok (.iaload, 1) := by decide +kernel
theorem d_M_lentOf_29 : decode b_M_lentOf 29 = .ok (.iload_n 1, 1) := by decide +kernel
theorem d_M_lentOf_30 : decode b_M_lentOf 30 = .ok (.if_icmp .ne 7, 3) := by decide +kernel
theorem d_M_lentOf_33 : decode b_M_lentOf 33 = .ok (.iconst 1, 1) := by decide +kernel
theorem d_M_lentOf_34 : decode b_M_lentOf 34 = .ok (.goto 4, 3) := by decide +kernel
theorem d_M_lentOf_37 : decode b_M_lentOf 37 = .ok (.iconst 0, 1) := by decide +kernel
theorem d_M_lentOf_38 : decode b_M_lentOf 38 = .ok (.iadd, 1) := by decide +kernel
theorem d_M_lentOf_39 : decode b_M_lentOf 39 = .ok (.istore_n 2, 1) := by decide +kernel
theorem d_M_lentOf_40 : decode b_M_lentOf 40 = .ok (.iinc 3 1, 3) := by decide +kernel
theorem d_M_lentOf_43 : decode b_M_lentOf 43 = .ok (.goto (-39), 3) := by decide +kernel
theorem d_M_lentOf_46 : decode b_M_lentOf 46 = .ok (.iload_n 2, 1) := by decide +kernel
theorem d_M_lentOf_47 : decode b_M_lentOf 47 = .ok (.ireturn, 1) := by decide +kernel
theorem d_M_weight_0 : decode b_M_weight 0 = .ok (.aload_n 0, 1) := by decide +kernel
theorem d_M_weight_1 : decode b_M_weight 1 = .ok (.getfield 38, 3) := by decide +kernel
theorem d_M_weight_4 : decode b_M_weight 4 = .ok (.bipush 6, 2) := by decide +kernel
theorem d_M_weight_6 : decode b_M_weight 6 = .ok (.aload_n 0, 1) := by decide +kernel
theorem d_M_weight_7 : decode b_M_weight 7 = .ok (.getfield 7, 3) := by decide +kernel
theorem d_M_weight_10 : decode b_M_weight 10 = .ok (.iload_n 1, 1) := by decide +kernel
theorem d_M_weight_11 : decode b_M_weight 11 = .ok (.iaload, 1) := by decide +kernel
theorem d_M_weight_12 : decode b_M_weight 12 = .ok (.imul, 1) := by decide +kernel
theorem d_M_weight_13 : decode b_M_weight 13 = .ok (.iconst 4, 1) := by decide +kernel
theorem d_M_weight_14 : decode b_M_weight 14 = .ok (.iadd, 1) := by decide +kernel
theorem d_M_weight_15 : decode b_M_weight 15 = .ok (.iaload, 1) := by decide +kernel
theorem d_M_weight_16 : decode b_M_weight 16 = .ok (.istore_n 2, 1) := by decide +kernel
theorem d_M_weight_17 : decode b_M_weight 17 = .ok (.aload_n 0, 1) := by decide +kernel
theorem d_M_weight_18 : decode b_M_weight 18 = .ok (.getfield 13, 3) := by decide +kernel
theorem d_M_weight_21 : decode b_M_weight 21 = .ok (.iload_n 1, 1) := by decide +kernel
theorem d_M_weight_22 : decode b_M_weight 22 = .ok (.iaload, 1) := by decide +kernel
theorem d_M_weight_23 : decode b_M_weight 23 = .ok (.iload_n 2, 1) := by decide +kernel
theorem d_M_weight_24 : decode b_M_weight 24 = .ok (.ifCond .le 19, 3) := by decide +kernel
theorem d_M_weight_27 : decode b_M_weight 27 = .ok (.aload_n 0, 1) := by decide +kernel
theorem d_M_weight_28 : decode b_M_weight 28 = .ok (.getfield 55, 3) := by decide +kernel
theorem d_M_weight_31 : decode b_M_weight 31 = .ok (.aload_n 0, 1) := by decide +kernel
theorem d_M_weight_32 : decode b_M_weight 32 = .ok (.getfield 29, 3) := by decide +kernel
theorem d_M_weight_35 : decode b_M_weight 35 = .ok (.iload_n 1, 1) := by decide +kernel
theorem d_M_weight_36 : decode b_M_weight 36 = .ok (.iaload, 1) := by decide +kernel
theorem d_M_weight_37 : decode b_M_weight 37 = .ok (.isub, 1) := by decide +kernel
theorem d_M_weight_38 : decode b_M_weight 38 = .ok (.iload_n 2, 1) := by decide +kernel
theorem d_M_weight_39 : decode b_M_weight 39 = .ok (.idiv, 1) := by decide +kernel
theorem d_M_weight_40 : decode b_M_weight 40 = .ok (.goto 4, 3) := by decide +kernel
theorem d_M_weight_43 : decode b_M_weight 43 = .ok (.iconst 0, 1) := by decide +kernel
theorem d_M_weight_44 : decode b_M_weight 44 = .ok (.iadd, 1) := by decide +kernel
theorem d_M_weight_45 : decode b_M_weight 45 = .ok (.istore_n 3, 1) := by decide +kernel
theorem d_M_weight_46 : decode b_M_weight 46 = .ok (.iload_n 3, 1) := by decide +kernel
theorem d_M_weight_47 : decode b_M_weight 47 = .ok (.bipush 9, 2) := by decide +kernel
theorem d_M_weight_49 : decode b_M_weight 49 = .ok (.if_icmp .le 8, 3) := by decide +kernel
theorem d_M_weight_52 : decode b_M_weight 52 = .ok (.bipush 9, 2) := by decide +kernel
theorem d_M_weight_54 : decode b_M_weight 54 = .ok (.goto 4, 3) := by decide +kernel
theorem d_M_weight_57 : decode b_M_weight 57 = .ok (.iload_n 3, 1) := by decide +kernel
theorem d_M_weight_58 : decode b_M_weight 58 = .ok (.ireturn, 1) := by decide +kernel
theorem d_M_lentTo_0 : decode b_M_lentTo 0 = .ok (.iconst 0, 1) := by decide +kernel
theorem d_M_lentTo_1 : decode b_M_lentTo 1 = .ok (.istore_n 2, 1) := by decide +kernel
theorem d_M_lentTo_2 : decode b_M_lentTo 2 = .ok (.iconst 0, 1) := by decide +kernel
theorem d_M_lentTo_3 : decode b_M_lentTo 3 = .ok (.istore_n 3, 1) := by decide +kernel
theorem d_M_lentTo_4 : decode b_M_lentTo 4 = .ok (.iload_n 3, 1) := by decide +kernel
theorem d_M_lentTo_5 : decode b_M_lentTo 5 = .ok (.aload_n 0, 1) := by decide +kernel
theorem d_M_lentTo_6 : decode b_M_lentTo 6 = .ok (.getfield 48, 3) := by decide +kernel
theorem d_M_lentTo_9 : decode b_M_lentTo 9 = .ok (.if_icmp .ge 37, 3) := by decide +kernel
theorem d_M_lentTo_12 : decode b_M_lentTo 12 = .ok (.iload_n 2, 1) := by decide +kernel
theorem d_M_lentTo_13 : decode b_M_lentTo 13 = .ok (.aload_n 0, 1) := by decide +kernel
theorem d_M_lentTo_14 : decode b_M_lentTo 14 = .ok (.getfield 26, 3) := by decide +kernel
theorem d_M_lentTo_17 : decode b_M_lentTo 17 = .ok (.iload_n 3, 1) := by decide +kernel
theorem d_M_lentTo_18 : decode b_M_lentTo 18 = .ok (.iaload, 1) := by decide +kernel
theorem d_M_lentTo_19 : decode b_M_lentTo 19 = .ok (.iconst 1, 1) := by decide +kernel
theorem d_M_lentTo_20 : decode b_M_lentTo 20 = .ok (.if_icmp .ne 17, 3) := by decide +kernel
theorem d_M_lentTo_23 : decode b_M_lentTo 23 = .ok (.aload_n 0, 1) := by decide +kernel
theorem d_M_lentTo_24 : decode b_M_lentTo 24 = .ok (.getfield 32, 3) := by decide +kernel
theorem d_M_lentTo_27 : decode b_M_lentTo 27 = .ok (.iload_n 3, 1) := by decide +kernel
theorem d_M_lentTo_28 : decode b_M_lentTo 28 = .ok (.iaload, 1) := by decide +kernel
theorem d_M_lentTo_29 : decode b_M_lentTo 29 = .ok (.iload_n 1, 1) := by decide +kernel
theorem d_M_lentTo_30 : decode b_M_lentTo 30 = .ok (.if_icmp .ne 7, 3) := by decide +kernel
theorem d_M_lentTo_33 : decode b_M_lentTo 33 = .ok (.iconst 1, 1) := by decide +kernel
theorem d_M_lentTo_34 : decode b_M_lentTo 34 = .ok (.goto 4, 3) := by decide +kernel
theorem d_M_lentTo_37 : decode b_M_lentTo 37 = .ok (.iconst 0, 1) := by decide +kernel
theorem d_M_lentTo_38 : decode b_M_lentTo 38 = .ok (.iadd, 1) := by decide +kernel
theorem d_M_lentTo_39 : decode b_M_lentTo 39 = .ok (.istore_n 2, 1) := by decide +kernel
theorem d_M_lentTo_40 : decode b_M_lentTo 40 = .ok (.iinc 3 1, 3) := by decide +kernel
theorem d_M_lentTo_43 : decode b_M_lentTo 43 = .ok (.goto (-39), 3) := by decide +kernel
theorem d_M_lentTo_46 : decode b_M_lentTo 46 = .ok (.iload_n 2, 1) := by decide +kernel
theorem d_M_lentTo_47 : decode b_M_lentTo 47 = .ok (.ireturn, 1) := by decide +kernel
theorem d_M_beat_0 : decode b_M_beat 0 = .ok (.aload_n 0, 1) := by decide +kernel
theorem d_M_beat_1 : decode b_M_beat 1 = .ok (.iconst 0, 1) := by decide +kernel
theorem d_M_beat_2 : decode b_M_beat 2 = .ok (.putfield 44, 3) := by decide +kernel
theorem d_M_beat_5 : decode b_M_beat 5 = .ok (.aload_n 0, 1) := by decide +kernel
theorem d_M_beat_6 : decode b_M_beat 6 = .ok (.iload_n 1, 1) := by decide +kernel
theorem d_M_beat_7 : decode b_M_beat 7 = .ok (.invokevirtual 92, 3) := by decide +kernel
theorem d_M_beat_10 : decode b_M_beat 10 = .ok (.istore_n 2, 1) := by decide +kernel
theorem d_M_beat_11 : decode b_M_beat 11 = .ok (.iload_n 2, 1) := by decide +kernel
theorem d_M_beat_12 : decode b_M_beat 12 = .ok (.iconst (-1), 1) := by decide +kernel
theorem d_M_beat_13 : decode b_M_beat 13 = .ok (.if_icmp .ne 5, 3) := by decide +kernel
theorem d_M_beat_16 : decode b_M_beat 16 = .ok (.iconst 0, 1) := by decide +kernel
theorem d_M_beat_17 : decode b_M_beat 17 = .ok (.ireturn, 1) := by decide +kernel
theorem d_M_beat_18 : decode b_M_beat 18 = .ok (.aload_n 0, 1) := by decide +kernel
theorem d_M_beat_19 : decode b_M_beat 19 = .ok (.getfield 29, 3) := by decide +kernel
theorem d_M_beat_22 : decode b_M_beat 22 = .ok (.iload_n 2, 1) := by decide +kernel
theorem d_M_beat_23 : decode b_M_beat 23 = .ok (.aload_n 0, 1) := by decide +kernel
theorem d_M_beat_24 : decode b_M_beat 24 = .ok (.getfield 55, 3) := by decide +kernel
theorem d_M_beat_27 : decode b_M_beat 27 = .ok (.aload_n 0, 1) := by decide +kernel
theorem d_M_beat_28 : decode b_M_beat 28 = .ok (.getfield 38, 3) := by decide +kernel
theorem d_M_beat_31 : decode b_M_beat 31 = .ok (.bipush 6, 2) := by decide +kernel
theorem d_M_beat_33 : decode b_M_beat 33 = .ok (.aload_n 0, 1) := by decide +kernel
theorem d_M_beat_34 : decode b_M_beat 34 = .ok (.getfield 7, 3) := by decide +kernel
theorem d_M_beat_37 : decode b_M_beat 37 = .ok (.iload_n 2, 1) := by decide +kernel
theorem d_M_beat_38 : decode b_M_beat 38 = .ok (.iaload, 1) := by decide +kernel
theorem d_M_beat_39 : decode b_M_beat 39 = .ok (.imul, 1) := by decide +kernel
theorem d_M_beat_40 : decode b_M_beat 40 = .ok (.iaload, 1) := by decide +kernel
theorem d_M_beat_41 : decode b_M_beat 41 = .ok (.iadd, 1) := by decide +kernel
theorem d_M_beat_42 : decode b_M_beat 42 = .ok (.iastore, 1) := by decide +kernel
theorem d_M_beat_43 : decode b_M_beat 43 = .ok (.iconst 1, 1) := by decide +kernel
theorem d_M_beat_44 : decode b_M_beat 44 = .ok (.ireturn, 1) := by decide +kernel
theorem d_M_lentWith_0 : decode b_M_lentWith 0 = .ok (.iconst 0, 1) := by decide +kernel
theorem d_M_lentWith_1 : decode b_M_lentWith 1 = .ok (.istore_n 2, 1) := by decide +kernel
theorem d_M_lentWith_2 : decode b_M_lentWith 2 = .ok (.iload_n 2, 1) := by decide +kernel
theorem d_M_lentWith_3 : decode b_M_lentWith 3 = .ok (.aload_n 0, 1) := by decide +kernel
theorem d_M_lentWith_4 : decode b_M_lentWith 4 = .ok (.getfield 48, 3) := by decide +kernel
theorem d_M_lentWith_7 : decode b_M_lentWith 7 = .ok (.if_icmp .ge 31, 3) := by decide +kernel
theorem d_M_lentWith_10 : decode b_M_lentWith 10 = .ok (.aload_n 0, 1) := by decide +kernel
theorem d_M_lentWith_11 : decode b_M_lentWith 11 = .ok (.getfield 26, 3) := by decide +kernel
theorem d_M_lentWith_14 : decode b_M_lentWith 14 = .ok (.iload_n 2, 1) := by decide +kernel
theorem d_M_lentWith_15 : decode b_M_lentWith 15 = .ok (.iaload, 1) := by decide +kernel
theorem d_M_lentWith_16 : decode b_M_lentWith 16 = .ok (.iconst 1, 1) := by decide +kernel
theorem d_M_lentWith_17 : decode b_M_lentWith 17 = .ok (.if_icmp .ne 15, 3) := by decide +kernel
theorem d_M_lentWith_20 : decode b_M_lentWith 20 = .ok (.aload_n 0, 1) := by decide +kernel
theorem d_M_lentWith_21 : decode b_M_lentWith 21 = .ok (.getfield 35, 3) := by decide +kernel
theorem d_M_lentWith_24 : decode b_M_lentWith 24 = .ok (.iload_n 2, 1) := by decide +kernel
theorem d_M_lentWith_25 : decode b_M_lentWith 25 = .ok (.iaload, 1) := by decide +kernel
theorem d_M_lentWith_26 : decode b_M_lentWith 26 = .ok (.iload_n 1, 1) := by decide +kernel
theorem d_M_lentWith_27 : decode b_M_lentWith 27 = .ok (.if_icmp .ne 5, 3) := by decide +kernel
theorem d_M_lentWith_30 : decode b_M_lentWith 30 = .ok (.iload_n 2, 1) := by decide +kernel
theorem d_M_lentWith_31 : decode b_M_lentWith 31 = .ok (.ireturn, 1) := by decide +kernel
theorem d_M_lentWith_32 : decode b_M_lentWith 32 = .ok (.iinc 2 1, 3) := by decide +kernel
theorem d_M_lentWith_35 : decode b_M_lentWith 35 = .ok (.goto (-33), 3) := by decide +kernel
theorem d_M_lentWith_38 : decode b_M_lentWith 38 = .ok (.iconst (-1), 1) := by decide +kernel
theorem d_M_lentWith_39 : decode b_M_lentWith 39 = .ok (.ireturn, 1) := by decide +kernel
theorem d_M_end_0 : decode b_M_end 0 = .ok (.aload_n 0, 1) := by decide +kernel
theorem d_M_end_1 : decode b_M_end 1 = .ok (.iload_n 1, 1) := by decide +kernel
theorem d_M_end_2 : decode b_M_end 2 = .ok (.invokevirtual 92, 3) := by decide +kernel
theorem d_M_end_5 : decode b_M_end 5 = .ok (.istore_n 3, 1) := by decide +kernel
theorem d_M_end_6 : decode b_M_end 6 = .ok (.aload_n 0, 1) := by decide +kernel
theorem d_M_end_7 : decode b_M_end 7 = .ok (.iload_n 3, 1) := by decide +kernel
theorem d_M_end_8 : decode b_M_end 8 = .ok (.iconst (-1), 1) := by decide +kernel
theorem d_M_end_9 : decode b_M_end 9 = .ok (.if_icmp .ne 7, 3) := by decide +kernel
theorem d_M_end_12 : decode b_M_end 12 = .ok (.iconst 1, 1) := by decide +kernel
theorem d_M_end_13 : decode b_M_end 13 = .ok (.goto 17, 3) := by decide +kernel
theorem d_M_end_16 : decode b_M_end 16 = .ok (.iload_n 2, 1) := by decide +kernel
theorem d_M_end_17 : decode b_M_end 17 = .ok (.iconst 0, 1) := by decide +kernel
theorem d_M_end_18 : decode b_M_end 18 = .ok (.iconst 2, 1) := by decide +kernel
theorem d_M_end_19 : decode b_M_end 19 = .ok (.invokestatic 58, 3) := by decide +kernel
theorem d_M_end_22 : decode b_M_end 22 = .ok (.ifCond .ne 7, 3) := by decide +kernel
theorem d_M_end_25 : decode b_M_end 25 = .ok (.iconst 2, 1) := by decide +kernel
theorem d_M_end_26 : decode b_M_end 26 = .ok (.goto 4, 3) := by decide +kernel
theorem d_M_end_29 : decode b_M_end 29 = .ok (.iconst 0, 1) := by decide +kernel
theorem d_M_end_30 : decode b_M_end 30 = .ok (.putfield 44, 3) := by decide +kernel
theorem d_M_end_33 : decode b_M_end 33 = .ok (.aload_n 0, 1) := by decide +kernel
theorem d_M_end_34 : decode b_M_end 34 = .ok (.getfield 44, 3) := by decide +kernel
theorem d_M_end_37 : decode b_M_end 37 = .ok (.ifCond .le 5, 3) := by decide +kernel
theorem d_M_end_40 : decode b_M_end 40 = .ok (.iconst 0, 1) := by decide +kernel
theorem d_M_end_41 : decode b_M_end 41 = .ok (.ireturn, 1) := by decide +kernel
theorem d_M_end_42 : decode b_M_end 42 = .ok (.iload_n 2, 1) := by decide +kernel
theorem d_M_end_43 : decode b_M_end 43 = .ok (.iconst 1, 1) := by decide +kernel
theorem d_M_end_44 : decode b_M_end 44 = .ok (.if_icmp .ne 10, 3) := by decide +kernel
theorem d_M_end_47 : decode b_M_end 47 = .ok (.aload_n 0, 1) := by decide +kernel
theorem d_M_end_48 : decode b_M_end 48 = .ok (.iload_n 3, 1) := by decide +kernel
theorem d_M_end_49 : decode b_M_end 49 = .ok (.invokevirtual 95, 3) := by decide +kernel
theorem d_M_end_52 : decode b_M_end 52 = .ok (.iload_n 3, 1) := by decide +kernel
theorem d_M_end_53 : decode b_M_end 53 = .ok (.ireturn, 1) := by decide +kernel
theorem d_M_end_54 : decode b_M_end 54 = .ok (.aload_n 0, 1) := by decide +kernel
theorem d_M_end_55 : decode b_M_end 55 = .ok (.getfield 26, 3) := by decide +kernel
theorem d_M_end_58 : decode b_M_end 58 = .ok (.iload_n 3, 1) := by decide +kernel
theorem d_M_end_59 : decode b_M_end 59 = .ok (.iload_n 2, 1) := by decide +kernel
theorem d_M_end_60 : decode b_M_end 60 = .ok (.ifCond .ne 7, 3) := by decide +kernel
theorem d_M_end_63 : decode b_M_end 63 = .ok (.iconst 2, 1) := by decide +kernel
theorem d_M_end_64 : decode b_M_end 64 = .ok (.goto 4, 3) := by decide +kernel
theorem d_M_end_67 : decode b_M_end 67 = .ok (.iconst 0, 1) := by decide +kernel
theorem d_M_end_68 : decode b_M_end 68 = .ok (.iastore, 1) := by decide +kernel
theorem d_M_end_69 : decode b_M_end 69 = .ok (.aload_n 0, 1) := by decide +kernel
theorem d_M_end_70 : decode b_M_end 70 = .ok (.getfield 29, 3) := by decide +kernel
theorem d_M_end_73 : decode b_M_end 73 = .ok (.iload_n 3, 1) := by decide +kernel
theorem d_M_end_74 : decode b_M_end 74 = .ok (.aload_n 0, 1) := by decide +kernel
theorem d_M_end_75 : decode b_M_end 75 = .ok (.getfield 55, 3) := by decide +kernel
theorem d_M_end_78 : decode b_M_end 78 = .ok (.iastore, 1) := by decide +kernel
theorem d_M_end_79 : decode b_M_end 79 = .ok (.aload_n 0, 1) := by decide +kernel
theorem d_M_end_80 : decode b_M_end 80 = .ok (.getfield 23, 3) := by decide +kernel
theorem d_M_end_83 : decode b_M_end 83 = .ok (.iload_n 3, 1) := by decide +kernel
theorem d_M_end_84 : decode b_M_end 84 = .ok (.dup2, 1) := by decide +kernel
theorem d_M_end_85 : decode b_M_end 85 = .ok (.iaload, 1) := by decide +kernel
theorem d_M_end_86 : decode b_M_end 86 = .ok (.iload_n 2, 1) := by decide +kernel
theorem d_M_end_87 : decode b_M_end 87 = .ok (.iconst 2, 1) := by decide +kernel
theorem d_M_end_88 : decode b_M_end 88 = .ok (.if_icmp .ne 7, 3) := by decide +kernel
theorem d_M_end_91 : decode b_M_end 91 = .ok (.iconst 1, 1) := by decide +kernel
theorem d_M_end_92 : decode b_M_end 92 = .ok (.goto 4, 3) := by decide +kernel
theorem d_M_end_95 : decode b_M_end 95 = .ok (.iconst 0, 1) := by decide +kernel
theorem d_M_end_96 : decode b_M_end 96 = .ok (.isub, 1) := by decide +kernel
theorem d_M_end_97 : decode b_M_end 97 = .ok (.iastore, 1) := by decide +kernel
theorem d_M_end_98 : decode b_M_end 98 = .ok (.iload_n 3, 1) := by decide +kernel
theorem d_M_end_99 : decode b_M_end 99 = .ok (.ireturn, 1) := by decide +kernel
theorem d_M_again_0 : decode b_M_again 0 = .ok (.bipush 6, 2) := by decide +kernel
theorem d_M_again_2 : decode b_M_again 2 = .ok (.aload_n 0, 1) := by decide +kernel
theorem d_M_again_3 : decode b_M_again 3 = .ok (.getfield 7, 3) := by decide +kernel
theorem d_M_again_6 : decode b_M_again 6 = .ok (.iload_n 1, 1) := by decide +kernel
theorem d_M_again_7 : decode b_M_again 7 = .ok (.iaload, 1) := by decide +kernel
theorem d_M_again_8 : decode b_M_again 8 = .ok (.imul, 1) := by decide +kernel
theorem d_M_again_9 : decode b_M_again 9 = .ok (.istore_n 2, 1) := by decide +kernel
theorem d_M_again_10 : decode b_M_again 10 = .ok (.aload_n 0, 1) := by decide +kernel
theorem d_M_again_11 : decode b_M_again 11 = .ok (.getfield 23, 3) := by decide +kernel
theorem d_M_again_14 : decode b_M_again 14 = .ok (.iload_n 1, 1) := by decide +kernel
theorem d_M_again_15 : decode b_M_again 15 = .ok (.iaload, 1) := by decide +kernel
theorem d_M_again_16 : decode b_M_again 16 = .ok (.aload_n 0, 1) := by decide +kernel
theorem d_M_again_17 : decode b_M_again 17 = .ok (.getfield 38, 3) := by decide +kernel
theorem d_M_again_20 : decode b_M_again 20 = .ok (.iload_n 2, 1) := by decide +kernel
theorem d_M_again_21 : decode b_M_again 21 = .ok (.iconst 1, 1) := by decide +kernel
theorem d_M_again_22 : decode b_M_again 22 = .ok (.iadd, 1) := by decide +kernel
theorem d_M_again_23 : decode b_M_again 23 = .ok (.iaload, 1) := by decide +kernel
theorem d_M_again_24 : decode b_M_again 24 = .ok (.if_icmp .lt 11, 3) := by decide +kernel
theorem d_M_again_27 : decode b_M_again 27 = .ok (.aload_n 0, 1) := by decide +kernel
theorem d_M_again_28 : decode b_M_again 28 = .ok (.getfield 26, 3) := by decide +kernel
theorem d_M_again_31 : decode b_M_again 31 = .ok (.iload_n 1, 1) := by decide +kernel
theorem d_M_again_32 : decode b_M_again 32 = .ok (.iconst 3, 1) := by decide +kernel
theorem d_M_again_33 : decode b_M_again 33 = .ok (.iastore, 1) := by decide +kernel
theorem d_M_again_34 : decode b_M_again 34 = .ok (.return_, 1) := by decide +kernel
theorem d_M_again_35 : decode b_M_again 35 = .ok (.aload_n 0, 1) := by decide +kernel
theorem d_M_again_36 : decode b_M_again 36 = .ok (.getfield 38, 3) := by decide +kernel
theorem d_M_again_39 : decode b_M_again 39 = .ok (.iload_n 2, 1) := by decide +kernel
theorem d_M_again_40 : decode b_M_again 40 = .ok (.iconst 2, 1) := by decide +kernel
theorem d_M_again_41 : decode b_M_again 41 = .ok (.iadd, 1) := by decide +kernel
theorem d_M_again_42 : decode b_M_again 42 = .ok (.iaload, 1) := by decide +kernel
theorem d_M_again_43 : decode b_M_again 43 = .ok (.istore_n 3, 1) := by decide +kernel
theorem d_M_again_44 : decode b_M_again 44 = .ok (.iconst 1, 1) := by decide +kernel
theorem d_M_again_45 : decode b_M_again 45 = .ok (.istore 4, 2) := by decide +kernel
theorem d_M_again_47 : decode b_M_again 47 = .ok (.iload 4, 2) := by decide +kernel
theorem d_M_again_49 : decode b_M_again 49 = .ok (.aload_n 0, 1) := by decide +kernel
theorem d_M_again_50 : decode b_M_again 50 = .ok (.getfield 23, 3) := by decide +kernel
theorem d_M_again_53 : decode b_M_again 53 = .ok (.iload_n 1, 1) := by decide +kernel
theorem d_M_again_54 : decode b_M_again 54 = .ok (.iaload, 1) := by decide +kernel
theorem d_M_again_55 : decode b_M_again 55 = .ok (.if_icmp .ge 25, 3) := by decide +kernel
theorem d_M_again_58 : decode b_M_again 58 = .ok (.iload_n 3, 1) := by decide +kernel
theorem d_M_again_59 : decode b_M_again 59 = .ok (.aload_n 0, 1) := by decide +kernel
theorem d_M_again_60 : decode b_M_again 60 = .ok (.getfield 38, 3) := by decide +kernel
theorem d_M_again_63 : decode b_M_again 63 = .ok (.iload_n 2, 1) := by decide +kernel
theorem d_M_again_64 : decode b_M_again 64 = .ok (.iconst 3, 1) := by decide +kernel
theorem d_M_again_65 : decode b_M_again 65 = .ok (.iadd, 1) := by decide +kernel
theorem d_M_again_66 : decode b_M_again 66 = .ok (.iaload, 1) := by decide +kernel
theorem d_M_again_67 : decode b_M_again 67 = .ok (.if_icmp .ge 13, 3) := by decide +kernel
theorem d_M_again_70 : decode b_M_again 70 = .ok (.iload_n 3, 1) := by decide +kernel
theorem d_M_again_71 : decode b_M_again 71 = .ok (.iconst 2, 1) := by decide +kernel
theorem d_M_again_72 : decode b_M_again 72 = .ok (.imul, 1) := by decide +kernel
theorem d_M_again_73 : decode b_M_again 73 = .ok (.istore_n 3, 1) := by decide +kernel
theorem d_M_again_74 : decode b_M_again 74 = .ok (.iinc 4 1, 3) := by decide +kernel
theorem d_M_again_77 : decode b_M_again 77 = .ok (.goto (-30), 3) := by decide +kernel
theorem d_M_again_80 : decode b_M_again 80 = .ok (.aload_n 0, 1) := by decide +kernel
theorem d_M_again_81 : decode b_M_again 81 = .ok (.getfield 26, 3) := by decide +kernel
theorem d_M_again_84 : decode b_M_again 84 = .ok (.iload_n 1, 1) := by decide +kernel
theorem d_M_again_85 : decode b_M_again 85 = .ok (.iconst 0, 1) := by decide +kernel
theorem d_M_again_86 : decode b_M_again 86 = .ok (.iastore, 1) := by decide +kernel
theorem d_M_again_87 : decode b_M_again 87 = .ok (.aload_n 0, 1) := by decide +kernel
theorem d_M_again_88 : decode b_M_again 88 = .ok (.getfield 29, 3) := by decide +kernel
theorem d_M_again_91 : decode b_M_again 91 = .ok (.iload_n 1, 1) := by decide +kernel
theorem d_M_again_92 : decode b_M_again 92 = .ok (.aload_n 0, 1) := by decide +kernel
theorem d_M_again_93 : decode b_M_again 93 = .ok (.getfield 55, 3) := by decide +kernel
theorem d_M_again_96 : decode b_M_again 96 = .ok (.iload_n 3, 1) := by decide +kernel
theorem d_M_again_97 : decode b_M_again 97 = .ok (.aload_n 0, 1) := by decide +kernel
theorem d_M_again_98 : decode b_M_again 98 = .ok (.getfield 38, 3) := by decide +kernel
theorem d_M_again_101 : decode b_M_again 101 = .ok (.iload_n 2, 1) := by decide +kernel
theorem d_M_again_102 : decode b_M_again 102 = .ok (.iconst 3, 1) := by decide +kernel
theorem d_M_again_103 : decode b_M_again 103 = .ok (.iadd, 1) := by decide +kernel
theorem d_M_again_104 : decode b_M_again 104 = .ok (.iaload, 1) := by decide +kernel
theorem d_M_again_105 : decode b_M_again 105 = .ok (.if_icmp .ge 7, 3) := by decide +kernel
theorem d_M_again_108 : decode b_M_again 108 = .ok (.iload_n 3, 1) := by decide +kernel
theorem d_M_again_109 : decode b_M_again 109 = .ok (.goto 11, 3) := by decide +kernel
theorem d_M_again_112 : decode b_M_again 112 = .ok (.aload_n 0, 1) := by decide +kernel
theorem d_M_again_113 : decode b_M_again 113 = .ok (.getfield 38, 3) := by decide +kernel
theorem d_M_again_116 : decode b_M_again 116 = .ok (.iload_n 2, 1) := by decide +kernel
theorem d_M_again_117 : decode b_M_again 117 = .ok (.iconst 3, 1) := by decide +kernel
theorem d_M_again_118 : decode b_M_again 118 = .ok (.iadd, 1) := by decide +kernel
theorem d_M_again_119 : decode b_M_again 119 = .ok (.iaload, 1) := by decide +kernel
theorem d_M_again_120 : decode b_M_again 120 = .ok (.iadd, 1) := by decide +kernel
theorem d_M_again_121 : decode b_M_again 121 = .ok (.iastore, 1) := by decide +kernel
theorem d_M_again_122 : decode b_M_again 122 = .ok (.return_, 1) := by decide +kernel
theorem d_M_tick_0 : decode b_M_tick 0 = .ok (.iload_n 1, 1) := by decide +kernel
theorem d_M_tick_1 : decode b_M_tick 1 = .ok (.iconst 1, 1) := by decide +kernel
theorem d_M_tick_2 : decode b_M_tick 2 = .ok (.sipush 1000, 3) := by decide +kernel
theorem d_M_tick_5 : decode b_M_tick 5 = .ok (.invokestatic 58, 3) := by decide +kernel
theorem d_M_tick_8 : decode b_M_tick 8 = .ok (.ifCond .ne 9, 3) := by decide +kernel
theorem d_M_tick_11 : decode b_M_tick 11 = .ok (.aload_n 0, 1) := by decide +kernel
theorem d_M_tick_12 : decode b_M_tick 12 = .ok (.iconst 1, 1) := by decide +kernel
theorem d_M_tick_13 : decode b_M_tick 13 = .ok (.invokevirtual 62, 3) := by decide +kernel
theorem d_M_tick_16 : decode b_M_tick 16 = .ok (.ireturn, 1) := by decide +kernel
theorem d_M_tick_17 : decode b_M_tick 17 = .ok (.aload_n 0, 1) := by decide +kernel
theorem d_M_tick_18 : decode b_M_tick 18 = .ok (.iconst 0, 1) := by decide +kernel
theorem d_M_tick_19 : decode b_M_tick 19 = .ok (.putfield 44, 3) := by decide +kernel
theorem d_M_tick_22 : decode b_M_tick 22 = .ok (.iconst 0, 1) := by decide +kernel
theorem d_M_tick_23 : decode b_M_tick 23 = .ok (.istore_n 2, 1) := by decide +kernel
theorem d_M_tick_24 : decode b_M_tick 24 = .ok (.iconst 0, 1) := by decide +kernel
theorem d_M_tick_25 : decode b_M_tick 25 = .ok (.istore_n 3, 1) := by decide +kernel
theorem d_M_tick_26 : decode b_M_tick 26 = .ok (.iload_n 3, 1) := by decide +kernel
theorem d_M_tick_27 : decode b_M_tick 27 = .ok (.iload_n 1, 1) := by decide +kernel
theorem d_M_tick_28 : decode b_M_tick 28 = .ok (.if_icmp .ge 74, 3) := by decide +kernel
theorem d_M_tick_31 : decode b_M_tick 31 = .ok (.aload_n 0, 1) := by decide +kernel
theorem d_M_tick_32 : decode b_M_tick 32 = .ok (.dup, 1) := by decide +kernel
theorem d_M_tick_33 : decode b_M_tick 33 = .ok (.getfield 55, 3) := by decide +kernel
theorem d_M_tick_36 : decode b_M_tick 36 = .ok (.iconst 1, 1) := by decide +kernel
theorem d_M_tick_37 : decode b_M_tick 37 = .ok (.iadd, 1) := by decide +kernel
theorem d_M_tick_38 : decode b_M_tick 38 = .ok (.putfield 55, 3) := by decide +kernel
theorem d_M_tick_41 : decode b_M_tick 41 = .ok (.iconst 0, 1) := by decide +kernel
theorem d_M_tick_42 : decode b_M_tick 42 = .ok (.istore 4, 2) := by decide +kernel
theorem d_M_tick_44 : decode b_M_tick 44 = .ok (.iload 4, 2) := by decide +kernel
theorem d_M_tick_46 : decode b_M_tick 46 = .ok (.aload_n 0, 1) := by decide +kernel
theorem d_M_tick_47 : decode b_M_tick 47 = .ok (.getfield 48, 3) := by decide +kernel
theorem d_M_tick_50 : decode b_M_tick 50 = .ok (.if_icmp .ge 46, 3) := by decide +kernel
theorem d_M_tick_53 : decode b_M_tick 53 = .ok (.aload_n 0, 1) := by decide +kernel
theorem d_M_tick_54 : decode b_M_tick 54 = .ok (.getfield 26, 3) := by decide +kernel
theorem d_M_tick_57 : decode b_M_tick 57 = .ok (.iload 4, 2) := by decide +kernel
theorem d_M_tick_59 : decode b_M_tick 59 = .ok (.iaload, 1) := by decide +kernel
theorem d_M_tick_60 : decode b_M_tick 60 = .ok (.iconst 1, 1) := by decide +kernel
theorem d_M_tick_61 : decode b_M_tick 61 = .ok (.if_icmp .ne 29, 3) := by decide +kernel
theorem d_M_tick_64 : decode b_M_tick 64 = .ok (.aload_n 0, 1) := by decide +kernel
theorem d_M_tick_65 : decode b_M_tick 65 = .ok (.getfield 29, 3) := by decide +kernel
theorem d_M_tick_68 : decode b_M_tick 68 = .ok (.iload 4, 2) := by decide +kernel
theorem d_M_tick_70 : decode b_M_tick 70 = .ok (.iaload, 1) := by decide +kernel
theorem d_M_tick_71 : decode b_M_tick 71 = .ok (.aload_n 0, 1) := by decide +kernel
theorem d_M_tick_72 : decode b_M_tick 72 = .ok (.getfield 55, 3) := by decide +kernel
theorem d_M_tick_75 : decode b_M_tick 75 = .ok (.if_icmp .le 6, 3) := by decide +kernel
theorem d_M_tick_78 : decode b_M_tick 78 = .ok (.goto 12, 3) := by decide +kernel
theorem d_M_tick_81 : decode b_M_tick 81 = .ok (.aload_n 0, 1) := by decide +kernel
theorem d_M_tick_82 : decode b_M_tick 82 = .ok (.iload 4, 2) := by decide +kernel
theorem d_M_tick_84 : decode b_M_tick 84 = .ok (.invokevirtual 95, 3) := by decide +kernel
theorem d_M_tick_87 : decode b_M_tick 87 = .ok (.iinc 2 1, 3) := by decide +kernel
theorem d_M_tick_90 : decode b_M_tick 90 = .ok (.iinc 4 1, 3) := by decide +kernel
theorem d_M_tick_93 : decode b_M_tick 93 = .ok (.goto (-49), 3) := by decide +kernel
theorem d_M_tick_96 : decode b_M_tick 96 = .ok (.iinc 3 1, 3) := by decide +kernel
theorem d_M_tick_99 : decode b_M_tick 99 = .ok (.goto (-73), 3) := by decide +kernel
theorem d_M_tick_102 : decode b_M_tick 102 = .ok (.iload_n 2, 1) := by decide +kernel
theorem d_M_tick_103 : decode b_M_tick 103 = .ok (.ireturn, 1) := by decide +kernel
theorem d_M_cancel_0 : decode b_M_cancel 0 = .ok (.aload_n 0, 1) := by decide +kernel
theorem d_M_cancel_1 : decode b_M_cancel 1 = .ok (.iconst 0, 1) := by decide +kernel
theorem d_M_cancel_2 : decode b_M_cancel 2 = .ok (.putfield 44, 3) := by decide +kernel
theorem d_M_cancel_5 : decode b_M_cancel 5 = .ok (.aload_n 0, 1) := by decide +kernel
theorem d_M_cancel_6 : decode b_M_cancel 6 = .ok (.iload_n 1, 1) := by decide +kernel
theorem d_M_cancel_7 : decode b_M_cancel 7 = .ok (.invokevirtual 99, 3) := by decide +kernel
theorem d_M_cancel_10 : decode b_M_cancel 10 = .ok (.ifCond .eq 11, 3) := by decide +kernel
theorem d_M_cancel_13 : decode b_M_cancel 13 = .ok (.aload_n 0, 1) := by decide +kernel
theorem d_M_cancel_14 : decode b_M_cancel 14 = .ok (.iload_n 1, 1) := by decide +kernel
theorem d_M_cancel_15 : decode b_M_cancel 15 = .ok (.invokevirtual 51, 3) := by decide +kernel
theorem d_M_cancel_18 : decode b_M_cancel 18 = .ok (.ifCond .ne 5, 3) := by decide +kernel
theorem d_M_cancel_21 : decode b_M_cancel 21 = .ok (.iconst 0, 1) := by decide +kernel
theorem d_M_cancel_22 : decode b_M_cancel 22 = .ok (.ireturn, 1) := by decide +kernel
theorem d_M_cancel_23 : decode b_M_cancel 23 = .ok (.aload_n 0, 1) := by decide +kernel
theorem d_M_cancel_24 : decode b_M_cancel 24 = .ok (.getfield 26, 3) := by decide +kernel
theorem d_M_cancel_27 : decode b_M_cancel 27 = .ok (.iload_n 1, 1) := by decide +kernel
theorem d_M_cancel_28 : decode b_M_cancel 28 = .ok (.iconst 4, 1) := by decide +kernel
theorem d_M_cancel_29 : decode b_M_cancel 29 = .ok (.iastore, 1) := by decide +kernel
theorem d_M_cancel_30 : decode b_M_cancel 30 = .ok (.iconst 1, 1) := by decide +kernel
theorem d_M_cancel_31 : decode b_M_cancel 31 = .ok (.ireturn, 1) := by decide +kernel
theorem d_M_isTask_0 : decode b_M_isTask 0 = .ok (.iload_n 1, 1) := by decide +kernel
theorem d_M_isTask_1 : decode b_M_isTask 1 = .ok (.ifCond .lt 15, 3) := by decide +kernel
theorem d_M_isTask_4 : decode b_M_isTask 4 = .ok (.iload_n 1, 1) := by decide +kernel
theorem d_M_isTask_5 : decode b_M_isTask 5 = .ok (.aload_n 0, 1) := by decide +kernel
theorem d_M_isTask_6 : decode b_M_isTask 6 = .ok (.getfield 48, 3) := by decide +kernel
theorem d_M_isTask_9 : decode b_M_isTask 9 = .ok (.if_icmp .ge 7, 3) := by decide +kernel
theorem d_M_isTask_12 : decode b_M_isTask 12 = .ok (.iconst 1, 1) := by decide +kernel
theorem d_M_isTask_13 : decode b_M_isTask 13 = .ok (.goto 4, 3) := by decide +kernel
theorem d_M_isTask_16 : decode b_M_isTask 16 = .ok (.iconst 0, 1) := by decide +kernel
theorem d_M_isTask_17 : decode b_M_isTask 17 = .ok (.ireturn, 1) := by decide +kernel
theorem d_M_revive_0 : decode b_M_revive 0 = .ok (.aload_n 0, 1) := by decide +kernel
theorem d_M_revive_1 : decode b_M_revive 1 = .ok (.iconst 0, 1) := by decide +kernel
theorem d_M_revive_2 : decode b_M_revive 2 = .ok (.putfield 44, 3) := by decide +kernel
theorem d_M_revive_5 : decode b_M_revive 5 = .ok (.aload_n 0, 1) := by decide +kernel
theorem d_M_revive_6 : decode b_M_revive 6 = .ok (.iload_n 1, 1) := by decide +kernel
theorem d_M_revive_7 : decode b_M_revive 7 = .ok (.invokevirtual 99, 3) := by decide +kernel
theorem d_M_revive_10 : decode b_M_revive 10 = .ok (.ifCond .eq 22, 3) := by decide +kernel
theorem d_M_revive_13 : decode b_M_revive 13 = .ok (.aload_n 0, 1) := by decide +kernel
theorem d_M_revive_14 : decode b_M_revive 14 = .ok (.getfield 26, 3) := by decide +kernel
theorem d_M_revive_17 : decode b_M_revive 17 = .ok (.iload_n 1, 1) := by decide +kernel
theorem d_M_revive_18 : decode b_M_revive 18 = .ok (.iaload, 1) := by decide +kernel
theorem d_M_revive_19 : decode b_M_revive 19 = .ok (.iconst 3, 1) := by decide +kernel
theorem d_M_revive_20 : decode b_M_revive 20 = .ok (.if_icmp .ne 12, 3) := by decide +kernel
theorem d_M_revive_23 : decode b_M_revive 23 = .ok (.aload_n 0, 1) := by decide +kernel
theorem d_M_revive_24 : decode b_M_revive 24 = .ok (.invokevirtual 70, 3) := by decide +kernel
theorem d_M_revive_27 : decode b_M_revive 27 = .ok (.bipush 64, 2) := by decide +kernel
theorem d_M_revive_29 : decode b_M_revive 29 = .ok (.if_icmp .ne 5, 3) := by decide +kernel
theorem d_M_revive_32 : decode b_M_revive 32 = .ok (.iconst 0, 1) := by decide +kernel
theorem d_M_revive_33 : decode b_M_revive 33 = .ok (.ireturn, 1) := by decide +kernel
theorem d_M_revive_34 : decode b_M_revive 34 = .ok (.aload_n 0, 1) := by decide +kernel
theorem d_M_revive_35 : decode b_M_revive 35 = .ok (.getfield 26, 3) := by decide +kernel
theorem d_M_revive_38 : decode b_M_revive 38 = .ok (.iload_n 1, 1) := by decide +kernel
theorem d_M_revive_39 : decode b_M_revive 39 = .ok (.iconst 0, 1) := by decide +kernel
theorem d_M_revive_40 : decode b_M_revive 40 = .ok (.iastore, 1) := by decide +kernel
theorem d_M_revive_41 : decode b_M_revive 41 = .ok (.aload_n 0, 1) := by decide +kernel
theorem d_M_revive_42 : decode b_M_revive 42 = .ok (.getfield 29, 3) := by decide +kernel
theorem d_M_revive_45 : decode b_M_revive 45 = .ok (.iload_n 1, 1) := by decide +kernel
theorem d_M_revive_46 : decode b_M_revive 46 = .ok (.aload_n 0, 1) := by decide +kernel
theorem d_M_revive_47 : decode b_M_revive 47 = .ok (.getfield 55, 3) := by decide +kernel
theorem d_M_revive_50 : decode b_M_revive 50 = .ok (.iastore, 1) := by decide +kernel
theorem d_M_revive_51 : decode b_M_revive 51 = .ok (.aload_n 0, 1) := by decide +kernel
theorem d_M_revive_52 : decode b_M_revive 52 = .ok (.getfield 23, 3) := by decide +kernel
theorem d_M_revive_55 : decode b_M_revive 55 = .ok (.iload_n 1, 1) := by decide +kernel
theorem d_M_revive_56 : decode b_M_revive 56 = .ok (.iconst 0, 1) := by decide +kernel
theorem d_M_revive_57 : decode b_M_revive 57 = .ok (.iastore, 1) := by decide +kernel
theorem d_M_revive_58 : decode b_M_revive 58 = .ok (.iconst 1, 1) := by decide +kernel
theorem d_M_revive_59 : decode b_M_revive 59 = .ok (.ireturn, 1) := by decide +kernel
theorem d_M_set_0 : decode b_M_set 0 = .ok (.aload_n 0, 1) := by decide +kernel
theorem d_M_set_1 : decode b_M_set 1 = .ok (.iconst 0, 1) := by decide +kernel
theorem d_M_set_2 : decode b_M_set 2 = .ok (.putfield 44, 3) := by decide +kernel
theorem d_M_set_5 : decode b_M_set 5 = .ok (.iload_n 1, 1) := by decide +kernel
theorem d_M_set_6 : decode b_M_set 6 = .ok (.iconst 0, 1) := by decide +kernel
theorem d_M_set_7 : decode b_M_set 7 = .ok (.bipush 6, 2) := by decide +kernel
theorem d_M_set_9 : decode b_M_set 9 = .ok (.invokestatic 58, 3) := by decide +kernel
theorem d_M_set_12 : decode b_M_set 12 = .ok (.ifCond .eq 38, 3) := by decide +kernel
theorem d_M_set_15 : decode b_M_set 15 = .ok (.iload_n 2, 1) := by decide +kernel
theorem d_M_set_16 : decode b_M_set 16 = .ok (.iconst 0, 1) := by decide +kernel
theorem d_M_set_17 : decode b_M_set 17 = .ok (.iload_n 1, 1) := by decide +kernel
theorem d_M_set_18 : decode b_M_set 18 = .ok (.bipush 6, 2) := by decide +kernel
theorem d_M_set_20 : decode b_M_set 20 = .ok (.if_icmp .ge 7, 3) := by decide +kernel
theorem d_M_set_23 : decode b_M_set 23 = .ok (.iconst 3, 1) := by decide +kernel
theorem d_M_set_24 : decode b_M_set 24 = .ok (.goto 5, 3) := by decide +kernel
theorem d_M_set_27 : decode b_M_set 27 = .ok (.bipush 7, 2) := by decide +kernel
theorem d_M_set_29 : decode b_M_set 29 = .ok (.invokestatic 58, 3) := by decide +kernel
theorem d_M_set_32 : decode b_M_set 32 = .ok (.ifCond .eq 18, 3) := by decide +kernel
theorem d_M_set_35 : decode b_M_set 35 = .ok (.iload_n 3, 1) := by decide +kernel
theorem d_M_set_36 : decode b_M_set 36 = .ok (.iload_n 1, 1) := by decide +kernel
theorem d_M_set_37 : decode b_M_set 37 = .ok (.invokestatic 102, 3) := by decide +kernel
theorem d_M_set_40 : decode b_M_set 40 = .ok (.iload_n 1, 1) := by decide +kernel
theorem d_M_set_41 : decode b_M_set 41 = .ok (.invokestatic 105, 3) := by decide +kernel
theorem d_M_set_44 : decode b_M_set 44 = .ok (.invokestatic 58, 3) := by decide +kernel
theorem d_M_set_47 : decode b_M_set 47 = .ok (.ifCond .ne 5, 3) := by decide +kernel
theorem d_M_set_50 : decode b_M_set 50 = .ok (.iconst 0, 1) := by decide +kernel
theorem d_M_set_51 : decode b_M_set 51 = .ok (.ireturn, 1) := by decide +kernel
theorem d_M_set_52 : decode b_M_set 52 = .ok (.iload_n 1, 1) := by decide +kernel
theorem d_M_set_53 : decode b_M_set 53 = .ok (.bipush 6, 2) := by decide +kernel
theorem d_M_set_55 : decode b_M_set 55 = .ok (.if_icmp .ge 18, 3) := by decide +kernel
theorem d_M_set_58 : decode b_M_set 58 = .ok (.aload_n 0, 1) := by decide +kernel
theorem d_M_set_59 : decode b_M_set 59 = .ok (.getfield 38, 3) := by decide +kernel
theorem d_M_set_62 : decode b_M_set 62 = .ok (.bipush 6, 2) := by decide +kernel
theorem d_M_set_64 : decode b_M_set 64 = .ok (.iload_n 2, 1) := by decide +kernel
theorem d_M_set_65 : decode b_M_set 65 = .ok (.imul, 1) := by decide +kernel
theorem d_M_set_66 : decode b_M_set 66 = .ok (.iload_n 1, 1) := by decide +kernel
theorem d_M_set_67 : decode b_M_set 67 = .ok (.iadd, 1) := by decide +kernel
theorem d_M_set_68 : decode b_M_set 68 = .ok (.iload_n 3, 1) := by decide +kernel
theorem d_M_set_69 : decode b_M_set 69 = .ok (.iastore, 1) := by decide +kernel
theorem d_M_set_70 : decode b_M_set 70 = .ok (.goto 10, 3) := by decide +kernel
theorem d_M_set_73 : decode b_M_set 73 = .ok (.aload_n 0, 1) := by decide +kernel
theorem d_M_set_74 : decode b_M_set 74 = .ok (.getfield 41, 3) := by decide +kernel
theorem d_M_set_77 : decode b_M_set 77 = .ok (.iload_n 2, 1) := by decide +kernel
theorem d_M_set_78 : decode b_M_set 78 = .ok (.iload_n 3, 1) := by decide +kernel
theorem d_M_set_79 : decode b_M_set 79 = .ok (.iastore, 1) := by decide +kernel
theorem d_M_set_80 : decode b_M_set 80 = .ok (.iconst 1, 1) := by decide +kernel
theorem d_M_set_81 : decode b_M_set 81 = .ok (.ireturn, 1) := by decide +kernel
theorem d_M_least_0 : decode b_M_least 0 = .ok (.iload_n 0, 1) := by decide +kernel
theorem d_M_least_1 : decode b_M_least 1 = .ok (.iconst 4, 1) := by decide +kernel
theorem d_M_least_2 : decode b_M_least 2 = .ok (.if_icmp .ge 7, 3) := by decide +kernel
theorem d_M_least_5 : decode b_M_least 5 = .ok (.iconst 1, 1) := by decide +kernel
theorem d_M_least_6 : decode b_M_least 6 = .ok (.goto 4, 3) := by decide +kernel
theorem d_M_least_9 : decode b_M_least 9 = .ok (.iconst 0, 1) := by decide +kernel
theorem d_M_least_10 : decode b_M_least 10 = .ok (.ireturn, 1) := by decide +kernel
theorem d_M_greatest_0 : decode b_M_greatest 0 = .ok (.iload_n 0, 1) := by decide +kernel
theorem d_M_greatest_1 : decode b_M_greatest 1 = .ok (.tableswitch 53 0 5 #[39, 43, 46, 49, 46, 49], 39) := by decide +kernel
theorem d_M_greatest_40 : decode b_M_greatest 40 = .ok (.sipush 200, 3) := by decide +kernel
theorem d_M_greatest_43 : decode b_M_greatest 43 = .ok (.ireturn, 1) := by decide +kernel
theorem d_M_greatest_44 : decode b_M_greatest 44 = .ok (.bipush 20, 2) := by decide +kernel
theorem d_M_greatest_46 : decode b_M_greatest 46 = .ok (.ireturn, 1) := by decide +kernel
theorem d_M_greatest_47 : decode b_M_greatest 47 = .ok (.bipush 100, 2) := by decide +kernel
theorem d_M_greatest_49 : decode b_M_greatest 49 = .ok (.ireturn, 1) := by decide +kernel
theorem d_M_greatest_50 : decode b_M_greatest 50 = .ok (.sipush 1000, 3) := by decide +kernel
theorem d_M_greatest_53 : decode b_M_greatest 53 = .ok (.ireturn, 1) := by decide +kernel
theorem d_M_greatest_54 : decode b_M_greatest 54 = .ok (.bipush 8, 2) := by decide +kernel
theorem d_M_greatest_56 : decode b_M_greatest 56 = .ok (.ireturn, 1) := by decide +kernel
theorem d_M_task_0 : decode b_M_task 0 = .ok (.aload_n 0, 1) := by decide +kernel
theorem d_M_task_1 : decode b_M_task 1 = .ok (.aload_n 0, 1) := by decide +kernel
theorem d_M_task_2 : decode b_M_task 2 = .ok (.iload_n 1, 1) := by decide +kernel
theorem d_M_task_3 : decode b_M_task 3 = .ok (.invokevirtual 99, 3) := by decide +kernel
theorem d_M_task_6 : decode b_M_task 6 = .ok (.ifCond .eq 13, 3) := by decide +kernel
theorem d_M_task_9 : decode b_M_task 9 = .ok (.iload_n 2, 1) := by decide +kernel
theorem d_M_task_10 : decode b_M_task 10 = .ok (.iconst 0, 1) := by decide +kernel
theorem d_M_task_11 : decode b_M_task 11 = .ok (.bipush 6, 2) := by decide +kernel
theorem d_M_task_13 : decode b_M_task 13 = .ok (.invokestatic 58, 3) := by decide +kernel
