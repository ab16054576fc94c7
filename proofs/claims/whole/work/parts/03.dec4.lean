theorem d_M_task_16 : decode b_M_task 16 = .ok (.ifCond .ne 7, 3) := by decide +kernel
theorem d_M_task_19 : decode b_M_task 19 = .ok (.iconst 1, 1) := by decide +kernel
theorem d_M_task_20 : decode b_M_task 20 = .ok (.goto 4, 3) := by decide +kernel
theorem d_M_task_23 : decode b_M_task 23 = .ok (.iconst 0, 1) := by decide +kernel
theorem d_M_task_24 : decode b_M_task 24 = .ok (.putfield 44, 3) := by decide +kernel
theorem d_M_task_27 : decode b_M_task 27 = .ok (.aload_n 0, 1) := by decide +kernel
theorem d_M_task_28 : decode b_M_task 28 = .ok (.getfield 44, 3) := by decide +kernel
theorem d_M_task_31 : decode b_M_task 31 = .ok (.ifCond .le 5, 3) := by decide +kernel
theorem d_M_task_34 : decode b_M_task 34 = .ok (.iconst 0, 1) := by decide +kernel
theorem d_M_task_35 : decode b_M_task 35 = .ok (.ireturn, 1) := by decide +kernel
theorem d_M_task_36 : decode b_M_task 36 = .ok (.aload_n 0, 1) := by decide +kernel
theorem d_M_task_37 : decode b_M_task 37 = .ok (.getfield 26, 3) := by decide +kernel
theorem d_M_task_40 : decode b_M_task 40 = .ok (.iload_n 1, 1) := by decide +kernel
theorem d_M_task_41 : decode b_M_task 41 = .ok (.iaload, 1) := by decide +kernel
theorem d_M_task_42 : decode b_M_task 42 = .ok (.ifCond .ne 7, 3) := by decide +kernel
theorem d_M_task_45 : decode b_M_task 45 = .ok (.iconst 1, 1) := by decide +kernel
theorem d_M_task_46 : decode b_M_task 46 = .ok (.goto 4, 3) := by decide +kernel
theorem d_M_task_49 : decode b_M_task 49 = .ok (.iconst 0, 1) := by decide +kernel
theorem d_M_task_50 : decode b_M_task 50 = .ok (.istore_n 3, 1) := by decide +kernel
theorem d_M_task_51 : decode b_M_task 51 = .ok (.aload_n 0, 1) := by decide +kernel
theorem d_M_task_52 : decode b_M_task 52 = .ok (.getfield 26, 3) := by decide +kernel
theorem d_M_task_55 : decode b_M_task 55 = .ok (.iload_n 1, 1) := by decide +kernel
theorem d_M_task_56 : decode b_M_task 56 = .ok (.iaload, 1) := by decide +kernel
theorem d_M_task_57 : decode b_M_task 57 = .ok (.iconst 1, 1) := by decide +kernel
theorem d_M_task_58 : decode b_M_task 58 = .ok (.if_icmp .ne 7, 3) := by decide +kernel
theorem d_M_task_61 : decode b_M_task 61 = .ok (.iconst 1, 1) := by decide +kernel
theorem d_M_task_62 : decode b_M_task 62 = .ok (.goto 4, 3) := by decide +kernel
theorem d_M_task_65 : decode b_M_task 65 = .ok (.iconst 0, 1) := by decide +kernel
theorem d_M_task_66 : decode b_M_task 66 = .ok (.istore 4, 2) := by decide +kernel
theorem d_M_task_68 : decode b_M_task 68 = .ok (.iload_n 2, 1) := by decide +kernel
theorem d_M_task_69 : decode b_M_task 69 = .ok (.tableswitch 116 0 5 #[39, 46, 53, 68, 84, 100], 39) := by decide +kernel
theorem d_M_task_108 : decode b_M_task 108 = .ok (.aload_n 0, 1) := by decide +kernel
theorem d_M_task_109 : decode b_M_task 109 = .ok (.getfield 26, 3) := by decide +kernel
theorem d_M_task_112 : decode b_M_task 112 = .ok (.iload_n 1, 1) := by decide +kernel
theorem d_M_task_113 : decode b_M_task 113 = .ok (.iaload, 1) := by decide +kernel
theorem d_M_task_114 : decode b_M_task 114 = .ok (.ireturn, 1) := by decide +kernel
theorem d_M_task_115 : decode b_M_task 115 = .ok (.aload_n 0, 1) := by decide +kernel
theorem d_M_task_116 : decode b_M_task 116 = .ok (.getfield 23, 3) := by decide +kernel
theorem d_M_task_119 : decode b_M_task 119 = .ok (.iload_n 1, 1) := by decide +kernel
theorem d_M_task_120 : decode b_M_task 120 = .ok (.iaload, 1) := by decide +kernel
theorem d_M_task_121 : decode b_M_task 121 = .ok (.ireturn, 1) := by decide +kernel
theorem d_M_task_122 : decode b_M_task 122 = .ok (.iload_n 3, 1) := by decide +kernel
theorem d_M_task_123 : decode b_M_task 123 = .ok (.ifCond .eq 12, 3) := by decide +kernel
theorem d_M_task_126 : decode b_M_task 126 = .ok (.aload_n 0, 1) := by decide +kernel
theorem d_M_task_127 : decode b_M_task 127 = .ok (.getfield 29, 3) := by decide +kernel
theorem d_M_task_130 : decode b_M_task 130 = .ok (.iload_n 1, 1) := by decide +kernel
theorem d_M_task_131 : decode b_M_task 131 = .ok (.iaload, 1) := by decide +kernel
theorem d_M_task_132 : decode b_M_task 132 = .ok (.goto 4, 3) := by decide +kernel
theorem d_M_task_135 : decode b_M_task 135 = .ok (.iconst (-1), 1) := by decide +kernel
theorem d_M_task_136 : decode b_M_task 136 = .ok (.ireturn, 1) := by decide +kernel
theorem d_M_task_137 : decode b_M_task 137 = .ok (.iload 4, 2) := by decide +kernel
theorem d_M_task_139 : decode b_M_task 139 = .ok (.ifCond .eq 12, 3) := by decide +kernel
theorem d_M_task_142 : decode b_M_task 142 = .ok (.aload_n 0, 1) := by decide +kernel
theorem d_M_task_143 : decode b_M_task 143 = .ok (.getfield 29, 3) := by decide +kernel
theorem d_M_task_146 : decode b_M_task 146 = .ok (.iload_n 1, 1) := by decide +kernel
theorem d_M_task_147 : decode b_M_task 147 = .ok (.iaload, 1) := by decide +kernel
theorem d_M_task_148 : decode b_M_task 148 = .ok (.goto 4, 3) := by decide +kernel
theorem d_M_task_151 : decode b_M_task 151 = .ok (.iconst (-1), 1) := by decide +kernel
theorem d_M_task_152 : decode b_M_task 152 = .ok (.ireturn, 1) := by decide +kernel
theorem d_M_task_153 : decode b_M_task 153 = .ok (.iload 4, 2) := by decide +kernel
theorem d_M_task_155 : decode b_M_task 155 = .ok (.ifCond .eq 12, 3) := by decide +kernel
theorem d_M_task_158 : decode b_M_task 158 = .ok (.aload_n 0, 1) := by decide +kernel
theorem d_M_task_159 : decode b_M_task 159 = .ok (.getfield 32, 3) := by decide +kernel
theorem d_M_task_162 : decode b_M_task 162 = .ok (.iload_n 1, 1) := by decide +kernel
theorem d_M_task_163 : decode b_M_task 163 = .ok (.iaload, 1) := by decide +kernel
theorem d_M_task_164 : decode b_M_task 164 = .ok (.goto 4, 3) := by decide +kernel
theorem d_M_task_167 : decode b_M_task 167 = .ok (.iconst (-1), 1) := by decide +kernel
theorem d_M_task_168 : decode b_M_task 168 = .ok (.ireturn, 1) := by decide +kernel
theorem d_M_task_169 : decode b_M_task 169 = .ok (.iload 4, 2) := by decide +kernel
theorem d_M_task_171 : decode b_M_task 171 = .ok (.ifCond .eq 12, 3) := by decide +kernel
theorem d_M_task_174 : decode b_M_task 174 = .ok (.aload_n 0, 1) := by decide +kernel
theorem d_M_task_175 : decode b_M_task 175 = .ok (.getfield 35, 3) := by decide +kernel
theorem d_M_task_178 : decode b_M_task 178 = .ok (.iload_n 1, 1) := by decide +kernel
theorem d_M_task_179 : decode b_M_task 179 = .ok (.iaload, 1) := by decide +kernel
theorem d_M_task_180 : decode b_M_task 180 = .ok (.goto 4, 3) := by decide +kernel
theorem d_M_task_183 : decode b_M_task 183 = .ok (.iconst (-1), 1) := by decide +kernel
theorem d_M_task_184 : decode b_M_task 184 = .ok (.ireturn, 1) := by decide +kernel
theorem d_M_task_185 : decode b_M_task 185 = .ok (.iload_n 3, 1) := by decide +kernel
theorem d_M_task_186 : decode b_M_task 186 = .ok (.ifCond .eq 24, 3) := by decide +kernel
theorem d_M_task_189 : decode b_M_task 189 = .ok (.aload_n 0, 1) := by decide +kernel
theorem d_M_task_190 : decode b_M_task 190 = .ok (.getfield 29, 3) := by decide +kernel
theorem d_M_task_193 : decode b_M_task 193 = .ok (.iload_n 1, 1) := by decide +kernel
theorem d_M_task_194 : decode b_M_task 194 = .ok (.iaload, 1) := by decide +kernel
theorem d_M_task_195 : decode b_M_task 195 = .ok (.aload_n 0, 1) := by decide +kernel
theorem d_M_task_196 : decode b_M_task 196 = .ok (.getfield 55, 3) := by decide +kernel
theorem d_M_task_199 : decode b_M_task 199 = .ok (.if_icmp .gt 11, 3) := by decide +kernel
theorem d_M_task_202 : decode b_M_task 202 = .ok (.aload_n 0, 1) := by decide +kernel
theorem d_M_task_203 : decode b_M_task 203 = .ok (.iload_n 1, 1) := by decide +kernel
theorem d_M_task_204 : decode b_M_task 204 = .ok (.invokevirtual 80, 3) := by decide +kernel
theorem d_M_task_207 : decode b_M_task 207 = .ok (.goto 4, 3) := by decide +kernel
theorem d_M_task_210 : decode b_M_task 210 = .ok (.iconst (-1), 1) := by decide +kernel
theorem d_M_task_211 : decode b_M_task 211 = .ok (.ireturn, 1) := by decide +kernel
theorem d_M_first_0 : decode b_M_first 0 = .ok (.aload_n 0, 1) := by decide +kernel
theorem d_M_first_1 : decode b_M_first 1 = .ok (.iconst 0, 1) := by decide +kernel
theorem d_M_first_2 : decode b_M_first 2 = .ok (.putfield 44, 3) := by decide +kernel
theorem d_M_first_5 : decode b_M_first 5 = .ok (.iload_n 1, 1) := by decide +kernel
theorem d_M_first_6 : decode b_M_first 6 = .ok (.iconst 0, 1) := by decide +kernel
theorem d_M_first_7 : decode b_M_first 7 = .ok (.iconst 3, 1) := by decide +kernel
theorem d_M_first_8 : decode b_M_first 8 = .ok (.invokestatic 58, 3) := by decide +kernel
theorem d_M_first_11 : decode b_M_first 11 = .ok (.ifCond .eq 11, 3) := by decide +kernel
theorem d_M_first_14 : decode b_M_first 14 = .ok (.aload_n 0, 1) := by decide +kernel
theorem d_M_first_15 : decode b_M_first 15 = .ok (.iload_n 1, 1) := by decide +kernel
theorem d_M_first_16 : decode b_M_first 16 = .ok (.invokevirtual 83, 3) := by decide +kernel
theorem d_M_first_19 : decode b_M_first 19 = .ok (.goto 4, 3) := by decide +kernel
theorem d_M_first_22 : decode b_M_first 22 = .ok (.iconst (-1), 1) := by decide +kernel
theorem d_M_first_23 : decode b_M_first 23 = .ok (.ireturn, 1) := by decide +kernel
theorem d_M_next_0 : decode b_M_next 0 = .ok (.aload_n 0, 1) := by decide +kernel
theorem d_M_next_1 : decode b_M_next 1 = .ok (.iconst 0, 1) := by decide +kernel
theorem d_M_next_2 : decode b_M_next 2 = .ok (.putfield 44, 3) := by decide +kernel
theorem d_M_next_5 : decode b_M_next 5 = .ok (.iconst (-1), 1) := by decide +kernel
theorem d_M_next_6 : decode b_M_next 6 = .ok (.istore_n 1, 1) := by decide +kernel
theorem d_M_next_7 : decode b_M_next 7 = .ok (.iconst 0, 1) := by decide +kernel
theorem d_M_next_8 : decode b_M_next 8 = .ok (.istore_n 2, 1) := by decide +kernel
theorem d_M_next_9 : decode b_M_next 9 = .ok (.iload_n 2, 1) := by decide +kernel
theorem d_M_next_10 : decode b_M_next 10 = .ok (.aload_n 0, 1) := by decide +kernel
theorem d_M_next_11 : decode b_M_next 11 = .ok (.getfield 48, 3) := by decide +kernel
theorem d_M_next_14 : decode b_M_next 14 = .ok (.if_icmp .ge 59, 3) := by decide +kernel
theorem d_M_next_17 : decode b_M_next 17 = .ok (.aload_n 0, 1) := by decide +kernel
theorem d_M_next_18 : decode b_M_next 18 = .ok (.iload_n 2, 1) := by decide +kernel
theorem d_M_next_19 : decode b_M_next 19 = .ok (.invokevirtual 51, 3) := by decide +kernel
theorem d_M_next_22 : decode b_M_next 22 = .ok (.ifCond .eq 45, 3) := by decide +kernel
theorem d_M_next_25 : decode b_M_next 25 = .ok (.aload_n 0, 1) := by decide +kernel
theorem d_M_next_26 : decode b_M_next 26 = .ok (.getfield 29, 3) := by decide +kernel
theorem d_M_next_29 : decode b_M_next 29 = .ok (.iload_n 2, 1) := by decide +kernel
theorem d_M_next_30 : decode b_M_next 30 = .ok (.iaload, 1) := by decide +kernel
theorem d_M_next_31 : decode b_M_next 31 = .ok (.aload_n 0, 1) := by decide +kernel
theorem d_M_next_32 : decode b_M_next 32 = .ok (.getfield 55, 3) := by decide +kernel
theorem d_M_next_35 : decode b_M_next 35 = .ok (.if_icmp .gt 6, 3) := by decide +kernel
theorem d_M_next_38 : decode b_M_next 38 = .ok (.goto 29, 3) := by decide +kernel
theorem d_M_next_41 : decode b_M_next 41 = .ok (.iload_n 1, 1) := by decide +kernel
theorem d_M_next_42 : decode b_M_next 42 = .ok (.iconst (-1), 1) := by decide +kernel
theorem d_M_next_43 : decode b_M_next 43 = .ok (.if_icmp .eq 13, 3) := by decide +kernel
theorem d_M_next_46 : decode b_M_next 46 = .ok (.aload_n 0, 1) := by decide +kernel
theorem d_M_next_47 : decode b_M_next 47 = .ok (.getfield 29, 3) := by decide +kernel
theorem d_M_next_50 : decode b_M_next 50 = .ok (.iload_n 2, 1) := by decide +kernel
theorem d_M_next_51 : decode b_M_next 51 = .ok (.iaload, 1) := by decide +kernel
theorem d_M_next_52 : decode b_M_next 52 = .ok (.iload_n 1, 1) := by decide +kernel
theorem d_M_next_53 : decode b_M_next 53 = .ok (.if_icmp .ge 12, 3) := by decide +kernel
theorem d_M_next_56 : decode b_M_next 56 = .ok (.aload_n 0, 1) := by decide +kernel
theorem d_M_next_57 : decode b_M_next 57 = .ok (.getfield 29, 3) := by decide +kernel
theorem d_M_next_60 : decode b_M_next 60 = .ok (.iload_n 2, 1) := by decide +kernel
theorem d_M_next_61 : decode b_M_next 61 = .ok (.iaload, 1) := by decide +kernel
theorem d_M_next_62 : decode b_M_next 62 = .ok (.goto 4, 3) := by decide +kernel
theorem d_M_next_65 : decode b_M_next 65 = .ok (.iload_n 1, 1) := by decide +kernel
theorem d_M_next_66 : decode b_M_next 66 = .ok (.istore_n 1, 1) := by decide +kernel
theorem d_M_next_67 : decode b_M_next 67 = .ok (.iinc 2 1, 3) := by decide +kernel
theorem d_M_next_70 : decode b_M_next 70 = .ok (.goto (-61), 3) := by decide +kernel
theorem d_M_next_73 : decode b_M_next 73 = .ok (.iload_n 1, 1) := by decide +kernel
theorem d_M_next_74 : decode b_M_next 74 = .ok (.ireturn, 1) := by decide +kernel
theorem d_M_count_0 : decode b_M_count 0 = .ok (.aload_n 0, 1) := by decide +kernel
theorem d_M_count_1 : decode b_M_count 1 = .ok (.iconst 0, 1) := by decide +kernel
theorem d_M_count_2 : decode b_M_count 2 = .ok (.putfield 44, 3) := by decide +kernel
theorem d_M_count_5 : decode b_M_count 5 = .ok (.iload_n 1, 1) := by decide +kernel
theorem d_M_count_6 : decode b_M_count 6 = .ok (.iconst 5, 1) := by decide +kernel
theorem d_M_count_7 : decode b_M_count 7 = .ok (.bipush 12, 2) := by decide +kernel
theorem d_M_count_9 : decode b_M_count 9 = .ok (.invokestatic 58, 3) := by decide +kernel
theorem d_M_count_12 : decode b_M_count 12 = .ok (.ifCond .eq 11, 3) := by decide +kernel
theorem d_M_count_15 : decode b_M_count 15 = .ok (.aload_n 0, 1) := by decide +kernel
theorem d_M_count_16 : decode b_M_count 16 = .ok (.iload_n 1, 1) := by decide +kernel
theorem d_M_count_17 : decode b_M_count 17 = .ok (.iconst 5, 1) := by decide +kernel
theorem d_M_count_18 : decode b_M_count 18 = .ok (.isub, 1) := by decide +kernel
theorem d_M_count_19 : decode b_M_count 19 = .ok (.invokevirtual 86, 3) := by decide +kernel
theorem d_M_count_22 : decode b_M_count 22 = .ok (.ireturn, 1) := by decide +kernel
theorem d_M_count_23 : decode b_M_count 23 = .ok (.iload_n 1, 1) := by decide +kernel
theorem d_M_count_24 : decode b_M_count 24 = .ok (.bipush 13, 2) := by decide +kernel
theorem d_M_count_26 : decode b_M_count 26 = .ok (.bipush 20, 2) := by decide +kernel
theorem d_M_count_28 : decode b_M_count 28 = .ok (.invokestatic 58, 3) := by decide +kernel
theorem d_M_count_31 : decode b_M_count 31 = .ok (.ifCond .eq 12, 3) := by decide +kernel
theorem d_M_count_34 : decode b_M_count 34 = .ok (.aload_n 0, 1) := by decide +kernel
theorem d_M_count_35 : decode b_M_count 35 = .ok (.iload_n 1, 1) := by decide +kernel
theorem d_M_count_36 : decode b_M_count 36 = .ok (.bipush 13, 2) := by decide +kernel
theorem d_M_count_38 : decode b_M_count 38 = .ok (.isub, 1) := by decide +kernel
theorem d_M_count_39 : decode b_M_count 39 = .ok (.invokevirtual 74, 3) := by decide +kernel
theorem d_M_count_42 : decode b_M_count 42 = .ok (.ireturn, 1) := by decide +kernel
theorem d_M_count_43 : decode b_M_count 43 = .ok (.iload_n 1, 1) := by decide +kernel
theorem d_M_count_44 : decode b_M_count 44 = .ok (.bipush 21, 2) := by decide +kernel
theorem d_M_count_46 : decode b_M_count 46 = .ok (.bipush 24, 2) := by decide +kernel
theorem d_M_count_48 : decode b_M_count 48 = .ok (.invokestatic 58, 3) := by decide +kernel
theorem d_M_count_51 : decode b_M_count 51 = .ok (.ifCond .eq 12, 3) := by decide +kernel
theorem d_M_count_54 : decode b_M_count 54 = .ok (.aload_n 0, 1) := by decide +kernel
theorem d_M_count_55 : decode b_M_count 55 = .ok (.iload_n 1, 1) := by decide +kernel
theorem d_M_count_56 : decode b_M_count 56 = .ok (.bipush 21, 2) := by decide +kernel
theorem d_M_count_58 : decode b_M_count 58 = .ok (.isub, 1) := by decide +kernel
theorem d_M_count_59 : decode b_M_count 59 = .ok (.invokevirtual 108, 3) := by decide +kernel
theorem d_M_count_62 : decode b_M_count 62 = .ok (.ireturn, 1) := by decide +kernel
theorem d_M_count_63 : decode b_M_count 63 = .ok (.iload_n 1, 1) := by decide +kernel
theorem d_M_count_64 : decode b_M_count 64 = .ok (.tableswitch 63 0 4 #[36, 41, 46, 51, 57], 36) := by decide +kernel
theorem d_M_count_100 : decode b_M_count 100 = .ok (.aload_n 0, 1) := by decide +kernel
theorem d_M_count_101 : decode b_M_count 101 = .ok (.getfield 55, 3) := by decide +kernel
theorem d_M_count_104 : decode b_M_count 104 = .ok (.ireturn, 1) := by decide +kernel
theorem d_M_count_105 : decode b_M_count 105 = .ok (.aload_n 0, 1) := by decide +kernel
theorem d_M_count_106 : decode b_M_count 106 = .ok (.getfield 48, 3) := by decide +kernel
theorem d_M_count_109 : decode b_M_count 109 = .ok (.ireturn, 1) := by decide +kernel
theorem d_M_count_110 : decode b_M_count 110 = .ok (.aload_n 0, 1) := by decide +kernel
theorem d_M_count_111 : decode b_M_count 111 = .ok (.invokevirtual 70, 3) := by decide +kernel
theorem d_M_count_114 : decode b_M_count 114 = .ok (.ireturn, 1) := by decide +kernel
theorem d_M_count_115 : decode b_M_count 115 = .ok (.aload_n 0, 1) := by decide +kernel
theorem d_M_count_116 : decode b_M_count 116 = .ok (.iconst 1, 1) := by decide +kernel
theorem d_M_count_117 : decode b_M_count 117 = .ok (.invokevirtual 111, 3) := by decide +kernel
theorem d_M_count_120 : decode b_M_count 120 = .ok (.ireturn, 1) := by decide +kernel
theorem d_M_count_121 : decode b_M_count 121 = .ok (.aload_n 0, 1) := by decide +kernel
theorem d_M_count_122 : decode b_M_count 122 = .ok (.iconst 3, 1) := by decide +kernel
theorem d_M_count_123 : decode b_M_count 123 = .ok (.invokevirtual 111, 3) := by decide +kernel
theorem d_M_count_126 : decode b_M_count 126 = .ok (.ireturn, 1) := by decide +kernel
theorem d_M_count_127 : decode b_M_count 127 = .ok (.iconst (-1), 1) := by decide +kernel
theorem d_M_count_128 : decode b_M_count 128 = .ok (.ireturn, 1) := by decide +kernel
theorem d_M_waitingIn_0 : decode b_M_waitingIn 0 = .ok (.iconst 0, 1) := by decide +kernel
theorem d_M_waitingIn_1 : decode b_M_waitingIn 1 = .ok (.istore_n 2, 1) := by decide +kernel
theorem d_M_waitingIn_2 : decode b_M_waitingIn 2 = .ok (.iconst 0, 1) := by decide +kernel
theorem d_M_waitingIn_3 : decode b_M_waitingIn 3 = .ok (.istore_n 3, 1) := by decide +kernel
theorem d_M_waitingIn_4 : decode b_M_waitingIn 4 = .ok (.iload_n 3, 1) := by decide +kernel
theorem d_M_waitingIn_5 : decode b_M_waitingIn 5 = .ok (.aload_n 0, 1) := by decide +kernel
theorem d_M_waitingIn_6 : decode b_M_waitingIn 6 = .ok (.getfield 48, 3) := by decide +kernel
theorem d_M_waitingIn_9 : decode b_M_waitingIn 9 = .ok (.if_icmp .ge 36, 3) := by decide +kernel
theorem d_M_waitingIn_12 : decode b_M_waitingIn 12 = .ok (.iload_n 2, 1) := by decide +kernel
theorem d_M_waitingIn_13 : decode b_M_waitingIn 13 = .ok (.aload_n 0, 1) := by decide +kernel
theorem d_M_waitingIn_14 : decode b_M_waitingIn 14 = .ok (.getfield 26, 3) := by decide +kernel
theorem d_M_waitingIn_17 : decode b_M_waitingIn 17 = .ok (.iload_n 3, 1) := by decide +kernel
theorem d_M_waitingIn_18 : decode b_M_waitingIn 18 = .ok (.iaload, 1) := by decide +kernel
theorem d_M_waitingIn_19 : decode b_M_waitingIn 19 = .ok (.ifCond .ne 17, 3) := by decide +kernel
theorem d_M_waitingIn_22 : decode b_M_waitingIn 22 = .ok (.aload_n 0, 1) := by decide +kernel
theorem d_M_waitingIn_23 : decode b_M_waitingIn 23 = .ok (.getfield 7, 3) := by decide +kernel
theorem d_M_waitingIn_26 : decode b_M_waitingIn 26 = .ok (.iload_n 3, 1) := by decide +kernel
theorem d_M_waitingIn_27 : decode b_M_waitingIn 27 = .ok (.iaload, 1) := by decide +kernel
theorem d_M_waitingIn_28 : decode b_M_waitingIn 28 = .ok (.iload_n 1, 1) := by decide +kernel
theorem d_M_waitingIn_29 : decode b_M_waitingIn 29 = .ok (.if_icmp .ne 7, 3) := by decide +kernel
theorem d_M_waitingIn_32 : decode b_M_waitingIn 32 = .ok (.iconst 1, 1) := by decide +kernel
theorem d_M_waitingIn_33 : decode b_M_waitingIn 33 = .ok (.goto 4, 3) := by decide +kernel
theorem d_M_waitingIn_36 : decode b_M_waitingIn 36 = .ok (.iconst 0, 1) := by decide +kernel
theorem d_M_waitingIn_37 : decode b_M_waitingIn 37 = .ok (.iadd, 1) := by decide +kernel
theorem d_M_waitingIn_38 : decode b_M_waitingIn 38 = .ok (.istore_n 2, 1) := by decide +kernel
theorem d_M_waitingIn_39 : decode b_M_waitingIn 39 = .ok (.iinc 3 1, 3) := by decide +kernel
theorem d_M_waitingIn_42 : decode b_M_waitingIn 42 = .ok (.goto (-38), 3) := by decide +kernel
theorem d_M_waitingIn_45 : decode b_M_waitingIn 45 = .ok (.iload_n 2, 1) := by decide +kernel
theorem d_M_waitingIn_46 : decode b_M_waitingIn 46 = .ok (.ireturn, 1) := by decide +kernel
theorem d_M_inState_0 : decode b_M_inState 0 = .ok (.iconst 0, 1) := by decide +kernel
theorem d_M_inState_1 : decode b_M_inState 1 = .ok (.istore_n 2, 1) := by decide +kernel
theorem d_M_inState_2 : decode b_M_inState 2 = .ok (.iconst 0, 1) := by decide +kernel
theorem d_M_inState_3 : decode b_M_inState 3 = .ok (.istore_n 3, 1) := by decide +kernel
theorem d_M_inState_4 : decode b_M_inState 4 = .ok (.iload_n 3, 1) := by decide +kernel
theorem d_M_inState_5 : decode b_M_inState 5 = .ok (.aload_n 0, 1) := by decide +kernel
theorem d_M_inState_6 : decode b_M_inState 6 = .ok (.getfield 48, 3) := by decide +kernel
theorem d_M_inState_9 : decode b_M_inState 9 = .ok (.if_icmp .ge 27, 3) := by decide +kernel
theorem d_M_inState_12 : decode b_M_inState 12 = .ok (.iload_n 2, 1) := by decide +kernel
theorem d_M_inState_13 : decode b_M_inState 13 = .ok (.aload_n 0, 1) := by decide +kernel
theorem d_M_inState_14 : decode b_M_inState 14 = .ok (.getfield 26, 3) := by decide +kernel
theorem d_M_inState_17 : decode b_M_inState 17 = .ok (.iload_n 3, 1) := by decide +kernel
theorem d_M_inState_18 : decode b_M_inState 18 = .ok (.iaload, 1) := by decide +kernel
theorem d_M_inState_19 : decode b_M_inState 19 = .ok (.iload_n 1, 1) := by decide +kernel
theorem d_M_inState_20 : decode b_M_inState 20 = .ok (.if_icmp .ne 7, 3) := by decide +kernel
theorem d_M_inState_23 : decode b_M_inState 23 = .ok (.iconst 1, 1) := by decide +kernel
theorem d_M_inState_24 : decode b_M_inState 24 = .ok (.goto 4, 3) := by decide +kernel
theorem d_M_inState_27 : decode b_M_inState 27 = .ok (.iconst 0, 1) := by decide +kernel
theorem d_M_inState_28 : decode b_M_inState 28 = .ok (.iadd, 1) := by decide +kernel
theorem d_M_inState_29 : decode b_M_inState 29 = .ok (.istore_n 2, 1) := by decide +kernel
theorem d_M_inState_30 : decode b_M_inState 30 = .ok (.iinc 3 1, 3) := by decide +kernel
theorem d_M_inState_33 : decode b_M_inState 33 = .ok (.goto (-29), 3) := by decide +kernel
theorem d_M_inState_36 : decode b_M_inState 36 = .ok (.iload_n 2, 1) := by decide +kernel
theorem d_M_inState_37 : decode b_M_inState 37 = .ok (.ireturn, 1) := by decide +kernel
theorem d_L_law_0 : decode b_L_law 0 = .ok (.new 8, 3) := by decide +kernel
theorem d_L_law_3 : decode b_L_law 3 = .ok (.dup, 1) := by decide +kernel
theorem d_L_law_4 : decode b_L_law 4 = .ok (.invokespecial 33, 3) := by decide +kernel
theorem d_L_law_7 : decode b_L_law 7 = .ok (.astore_n 1, 1) := by decide +kernel
theorem d_L_law_8 : decode b_L_law 8 = .ok (.new 34, 3) := by decide +kernel
theorem d_L_law_11 : decode b_L_law 11 = .ok (.dup, 1) := by decide +kernel
theorem d_L_law_12 : decode b_L_law 12 = .ok (.invokespecial 36, 3) := by decide +kernel
theorem d_L_law_15 : decode b_L_law 15 = .ok (.astore_n 2, 1) := by decide +kernel
theorem d_L_law_16 : decode b_L_law 16 = .ok (.iconst 1, 1) := by decide +kernel
theorem d_L_law_17 : decode b_L_law 17 = .ok (.newarray .long, 2) := by decide +kernel
theorem d_L_law_19 : decode b_L_law 19 = .ok (.astore_n 3, 1) := by decide +kernel
theorem d_L_law_20 : decode b_L_law 20 = .ok (.iconst 0, 1) := by decide +kernel
theorem d_L_law_21 : decode b_L_law 21 = .ok (.istore 4, 2) := by decide +kernel
theorem d_L_law_23 : decode b_L_law 23 = .ok (.iload 4, 2) := by decide +kernel
theorem d_L_law_25 : decode b_L_law 25 = .ok (.aload_n 0, 1) := by decide +kernel
theorem d_L_law_26 : decode b_L_law 26 = .ok (.arraylength, 1) := by decide +kernel
theorem d_L_law_27 : decode b_L_law 27 = .ok (.bipush 7, 2) := by decide +kernel
theorem d_L_law_29 : decode b_L_law 29 = .ok (.isub, 1) := by decide +kernel
theorem d_L_law_30 : decode b_L_law 30 = .ok (.if_icmp .gt 665, 3) := by decide +kernel
theorem d_L_law_33 : decode b_L_law 33 = .ok (.aload_n 0, 1) := by decide +kernel
theorem d_L_law_34 : decode b_L_law 34 = .ok (.iload 4, 2) := by decide +kernel
theorem d_L_law_36 : decode b_L_law 36 = .ok (.iaload, 1) := by decide +kernel
theorem d_L_law_37 : decode b_L_law 37 = .ok (.bipush 15, 2) := by decide +kernel
theorem d_L_law_39 : decode b_L_law 39 = .ok (.iand, 1) := by decide +kernel
theorem d_L_law_40 : decode b_L_law 40 = .ok (.tableswitch 649 0 11 #[64, 202, 270, 295, 363, 419, 444, 469, 518, 586, 611, 624], 64) := by decide +kernel
theorem d_L_law_104 : decode b_L_law 104 = .ok (.aload_n 1, 1) := by decide +kernel
theorem d_L_law_105 : decode b_L_law 105 = .ok (.aload_n 0, 1) := by decide +kernel
theorem d_L_law_106 : decode b_L_law 106 = .ok (.iload 4, 2) := by decide +kernel
theorem d_L_law_108 : decode b_L_law 108 = .ok (.iconst 1, 1) := by decide +kernel
theorem d_L_law_109 : decode b_L_law 109 = .ok (.iadd, 1) := by decide +kernel
theorem d_L_law_110 : decode b_L_law 110 = .ok (.iaload, 1) := by decide +kernel
theorem d_L_law_111 : decode b_L_law 111 = .ok (.aload_n 0, 1) := by decide +kernel
theorem d_L_law_112 : decode b_L_law 112 = .ok (.iload 4, 2) := by decide +kernel
theorem d_L_law_114 : decode b_L_law 114 = .ok (.iconst 2, 1) := by decide +kernel
theorem d_L_law_115 : decode b_L_law 115 = .ok (.iadd, 1) := by decide +kernel
theorem d_L_law_116 : decode b_L_law 116 = .ok (.iaload, 1) := by decide +kernel
theorem d_L_law_117 : decode b_L_law 117 = .ok (.aload_n 0, 1) := by decide +kernel
theorem d_L_law_118 : decode b_L_law 118 = .ok (.iload 4, 2) := by decide +kernel
theorem d_L_law_120 : decode b_L_law 120 = .ok (.iconst 3, 1) := by decide +kernel
theorem d_L_law_121 : decode b_L_law 121 = .ok (.iadd, 1) := by decide +kernel
theorem d_L_law_122 : decode b_L_law 122 = .ok (.iaload, 1) := by decide +kernel
theorem d_L_law_123 : decode b_L_law 123 = .ok (.aload_n 0, 1) := by decide +kernel
theorem d_L_law_124 : decode b_L_law 124 = .ok (.iload 4, 2) := by decide +kernel
theorem d_L_law_126 : decode b_L_law 126 = .ok (.iconst 4, 1) := by decide +kernel
theorem d_L_law_127 : decode b_L_law 127 = .ok (.iadd, 1) := by decide +kernel
theorem d_L_law_128 : decode b_L_law 128 = .ok (.iaload, 1) := by decide +kernel
theorem d_L_law_129 : decode b_L_law 129 = .ok (.i2l, 1) := by decide +kernel
theorem d_L_law_130 : decode b_L_law 130 = .ok (.bipush 32, 2) := by decide +kernel
theorem d_L_law_132 : decode b_L_law 132 = .ok (.lshl, 1) := by decide +kernel
theorem d_L_law_133 : decode b_L_law 133 = .ok (.aload_n 0, 1) := by decide +kernel
theorem d_L_law_134 : decode b_L_law 134 = .ok (.iload 4, 2) := by decide +kernel
theorem d_L_law_136 : decode b_L_law 136 = .ok (.iconst 5, 1) := by decide +kernel
theorem d_L_law_137 : decode b_L_law 137 = .ok (.iadd, 1) := by decide +kernel
theorem d_L_law_138 : decode b_L_law 138 = .ok (.iaload, 1) := by decide +kernel
theorem d_L_law_139 : decode b_L_law 139 = .ok (.i2l, 1) := by decide +kernel
theorem d_L_law_140 : decode b_L_law 140 = .ok (.ldc2_w 37, 3) := by decide +kernel
theorem d_L_law_143 : decode b_L_law 143 = .ok (.land, 1) := by decide +kernel
theorem d_L_law_144 : decode b_L_law 144 = .ok (.lor, 1) := by decide +kernel
theorem d_L_law_145 : decode b_L_law 145 = .ok (.aload_n 0, 1) := by decide +kernel
theorem d_L_law_146 : decode b_L_law 146 = .ok (.iload 4, 2) := by decide +kernel
theorem d_L_law_148 : decode b_L_law 148 = .ok (.bipush 6, 2) := by decide +kernel
theorem d_L_law_150 : decode b_L_law 150 = .ok (.iadd, 1) := by decide +kernel
theorem d_L_law_151 : decode b_L_law 151 = .ok (.iaload, 1) := by decide +kernel
theorem d_L_law_152 : decode b_L_law 152 = .ok (.aload_n 3, 1) := by decide +kernel
theorem d_L_law_153 : decode b_L_law 153 = .ok (.invokestatic 39, 3) := by decide +kernel
theorem d_L_law_156 : decode b_L_law 156 = .ok (.istore 5, 2) := by decide +kernel
theorem d_L_law_158 : decode b_L_law 158 = .ok (.aload_n 2, 1) := by decide +kernel
theorem d_L_law_159 : decode b_L_law 159 = .ok (.aload_n 0, 1) := by decide +kernel
theorem d_L_law_160 : decode b_L_law 160 = .ok (.iload 4, 2) := by decide +kernel
theorem d_L_law_162 : decode b_L_law 162 = .ok (.iconst 1, 1) := by decide +kernel
theorem d_L_law_163 : decode b_L_law 163 = .ok (.iadd, 1) := by decide +kernel
theorem d_L_law_164 : decode b_L_law 164 = .ok (.iaload, 1) := by decide +kernel
theorem d_L_law_165 : decode b_L_law 165 = .ok (.aload_n 0, 1) := by decide +kernel
theorem d_L_law_166 : decode b_L_law 166 = .ok (.iload 4, 2) := by decide +kernel
theorem d_L_law_168 : decode b_L_law 168 = .ok (.iconst 2, 1) := by decide +kernel
theorem d_L_law_169 : decode b_L_law 169 = .ok (.iadd, 1) := by decide +kernel
theorem d_L_law_170 : decode b_L_law 170 = .ok (.iaload, 1) := by decide +kernel
theorem d_L_law_171 : decode b_L_law 171 = .ok (.aload_n 0, 1) := by decide +kernel
theorem d_L_law_172 : decode b_L_law 172 = .ok (.iload 4, 2) := by decide +kernel
theorem d_L_law_174 : decode b_L_law 174 = .ok (.iconst 3, 1) := by decide +kernel
theorem d_L_law_175 : decode b_L_law 175 = .ok (.iadd, 1) := by decide +kernel
theorem d_L_law_176 : decode b_L_law 176 = .ok (.iaload, 1) := by decide +kernel
theorem d_L_law_177 : decode b_L_law 177 = .ok (.aload_n 0, 1) := by decide +kernel
theorem d_L_law_178 : decode b_L_law 178 = .ok (.iload 4, 2) := by decide +kernel
theorem d_L_law_180 : decode b_L_law 180 = .ok (.iconst 4, 1) := by decide +kernel
theorem d_L_law_181 : decode b_L_law 181 = .ok (.iadd, 1) := by decide +kernel
theorem d_L_law_182 : decode b_L_law 182 = .ok (.iaload, 1) := by decide +kernel
theorem d_L_law_183 : decode b_L_law 183 = .ok (.i2l, 1) := by decide +kernel
theorem d_L_law_184 : decode b_L_law 184 = .ok (.bipush 32, 2) := by decide +kernel
theorem d_L_law_186 : decode b_L_law 186 = .ok (.lshl, 1) := by decide +kernel
theorem d_L_law_187 : decode b_L_law 187 = .ok (.aload_n 0, 1) := by decide +kernel
theorem d_L_law_188 : decode b_L_law 188 = .ok (.iload 4, 2) := by decide +kernel
theorem d_L_law_190 : decode b_L_law 190 = .ok (.iconst 5, 1) := by decide +kernel
theorem d_L_law_191 : decode b_L_law 191 = .ok (.iadd, 1) := by decide +kernel
theorem d_L_law_192 : decode b_L_law 192 = .ok (.iaload, 1) := by decide +kernel
theorem d_L_law_193 : decode b_L_law 193 = .ok (.i2l, 1) := by decide +kernel
theorem d_L_law_194 : decode b_L_law 194 = .ok (.ldc2_w 37, 3) := by decide +kernel
theorem d_L_law_197 : decode b_L_law 197 = .ok (.land, 1) := by decide +kernel
theorem d_L_law_198 : decode b_L_law 198 = .ok (.lor, 1) := by decide +kernel
theorem d_L_law_199 : decode b_L_law 199 = .ok (.aload_n 0, 1) := by decide +kernel
theorem d_L_law_200 : decode b_L_law 200 = .ok (.iload 4, 2) := by decide +kernel
theorem d_L_law_202 : decode b_L_law 202 = .ok (.bipush 6, 2) := by decide +kernel
theorem d_L_law_204 : decode b_L_law 204 = .ok (.iadd, 1) := by decide +kernel
theorem d_L_law_205 : decode b_L_law 205 = .ok (.iaload, 1) := by decide +kernel
theorem d_L_law_206 : decode b_L_law 206 = .ok (.invokevirtual 44, 3) := by decide +kernel
theorem d_L_law_209 : decode b_L_law 209 = .ok (.istore 6, 2) := by decide +kernel
theorem d_L_law_211 : decode b_L_law 211 = .ok (.aload_n 2, 1) := by decide +kernel
theorem d_L_law_212 : decode b_L_law 212 = .ok (.invokevirtual 45, 3) := by decide +kernel
theorem d_L_law_215 : decode b_L_law 215 = .ok (.iload 5, 2) := by decide +kernel
theorem d_L_law_217 : decode b_L_law 217 = .ok (.if_icmp .eq 5, 3) := by decide +kernel
theorem d_L_law_220 : decode b_L_law 220 = .ok (.iconst 0, 1) := by decide +kernel
theorem d_L_law_221 : decode b_L_law 221 = .ok (.ireturn, 1) := by decide +kernel
theorem d_L_law_222 : decode b_L_law 222 = .ok (.iload 5, 2) := by decide +kernel
theorem d_L_law_224 : decode b_L_law 224 = .ok (.ifCond .ne 15, 3) := by decide +kernel
theorem d_L_law_227 : decode b_L_law 227 = .ok (.aload_n 3, 1) := by decide +kernel
theorem d_L_law_228 : decode b_L_law 228 = .ok (.iconst 0, 1) := by decide +kernel
theorem d_L_law_229 : decode b_L_law 229 = .ok (.laload, 1) := by decide +kernel
theorem d_L_law_230 : decode b_L_law 230 = .ok (.iload 6, 2) := by decide +kernel
theorem d_L_law_232 : decode b_L_law 232 = .ok (.i2l, 1) := by decide +kernel
theorem d_L_law_233 : decode b_L_law 233 = .ok (.lcmp, 1) := by decide +kernel
theorem d_L_law_234 : decode b_L_law 234 = .ok (.ifCond .eq 5, 3) := by decide +kernel
theorem d_L_law_237 : decode b_L_law 237 = .ok (.iconst 0, 1) := by decide +kernel
theorem d_L_law_238 : decode b_L_law 238 = .ok (.ireturn, 1) := by decide +kernel
theorem d_L_law_239 : decode b_L_law 239 = .ok (.goto 450, 3) := by decide +kernel
theorem d_L_law_242 : decode b_L_law 242 = .ok (.aload_n 1, 1) := by decide +kernel
theorem d_L_law_243 : decode b_L_law 243 = .ok (.aload_n 0, 1) := by decide +kernel
theorem d_L_law_244 : decode b_L_law 244 = .ok (.iload 4, 2) := by decide +kernel
theorem d_L_law_246 : decode b_L_law 246 = .ok (.iconst 1, 1) := by decide +kernel
theorem d_L_law_247 : decode b_L_law 247 = .ok (.iadd, 1) := by decide +kernel
theorem d_L_law_248 : decode b_L_law 248 = .ok (.iaload, 1) := by decide +kernel
theorem d_L_law_249 : decode b_L_law 249 = .ok (.aload_n 0, 1) := by decide +kernel
theorem d_L_law_250 : decode b_L_law 250 = .ok (.iload 4, 2) := by decide +kernel
theorem d_L_law_252 : decode b_L_law 252 = .ok (.iconst 2, 1) := by decide +kernel
theorem d_L_law_253 : decode b_L_law 253 = .ok (.iadd, 1) := by decide +kernel
theorem d_L_law_254 : decode b_L_law 254 = .ok (.iaload, 1) := by decide +kernel
theorem d_L_law_255 : decode b_L_law 255 = .ok (.aload_n 3, 1) := by decide +kernel
theorem d_L_law_256 : decode b_L_law 256 = .ok (.invokestatic 49, 3) := by decide +kernel
theorem d_L_law_259 : decode b_L_law 259 = .ok (.istore 5, 2) := by decide +kernel
theorem d_L_law_261 : decode b_L_law 261 = .ok (.aload_n 2, 1) := by decide +kernel
theorem d_L_law_262 : decode b_L_law 262 = .ok (.aload_n 0, 1) := by decide +kernel
theorem d_L_law_263 : decode b_L_law 263 = .ok (.iload 4, 2) := by decide +kernel
theorem d_L_law_265 : decode b_L_law 265 = .ok (.iconst 1, 1) := by decide +kernel
theorem d_L_law_266 : decode b_L_law 266 = .ok (.iadd, 1) := by decide +kernel
theorem d_L_law_267 : decode b_L_law 267 = .ok (.iaload, 1) := by decide +kernel
theorem d_L_law_268 : decode b_L_law 268 = .ok (.aload_n 0, 1) := by decide +kernel
theorem d_L_law_269 : decode b_L_law 269 = .ok (.iload 4, 2) := by decide +kernel
theorem d_L_law_271 : decode b_L_law 271 = .ok (.iconst 2, 1) := by decide +kernel
theorem d_L_law_272 : decode b_L_law 272 = .ok (.iadd, 1) := by decide +kernel
theorem d_L_law_273 : decode b_L_law 273 = .ok (.iaload, 1) := by decide +kernel
theorem d_L_law_274 : decode b_L_law 274 = .ok (.invokevirtual 52, 3) := by decide +kernel
theorem d_L_law_277 : decode b_L_law 277 = .ok (.istore 6, 2) := by decide +kernel
theorem d_L_law_279 : decode b_L_law 279 = .ok (.aload_n 2, 1) := by decide +kernel
theorem d_L_law_280 : decode b_L_law 280 = .ok (.invokevirtual 45, 3) := by decide +kernel
theorem d_L_law_283 : decode b_L_law 283 = .ok (.iload 5, 2) := by decide +kernel
theorem d_L_law_285 : decode b_L_law 285 = .ok (.if_icmp .eq 5, 3) := by decide +kernel
theorem d_L_law_288 : decode b_L_law 288 = .ok (.iconst 0, 1) := by decide +kernel
theorem d_L_law_289 : decode b_L_law 289 = .ok (.ireturn, 1) := by decide +kernel
theorem d_L_law_290 : decode b_L_law 290 = .ok (.iload 5, 2) := by decide +kernel
theorem d_L_law_292 : decode b_L_law 292 = .ok (.ifCond .ne 15, 3) := by decide +kernel
theorem d_L_law_295 : decode b_L_law 295 = .ok (.aload_n 3, 1) := by decide +kernel
theorem d_L_law_296 : decode b_L_law 296 = .ok (.iconst 0, 1) := by decide +kernel
theorem d_L_law_297 : decode b_L_law 297 = .ok (.laload, 1) := by decide +kernel
theorem d_L_law_298 : decode b_L_law 298 = .ok (.iload 6, 2) := by decide +kernel
theorem d_L_law_300 : decode b_L_law 300 = .ok (.i2l, 1) := by decide +kernel
theorem d_L_law_301 : decode b_L_law 301 = .ok (.lcmp, 1) := by decide +kernel
theorem d_L_law_302 : decode b_L_law 302 = .ok (.ifCond .eq 5, 3) := by decide +kernel
theorem d_L_law_305 : decode b_L_law 305 = .ok (.iconst 0, 1) := by decide +kernel
theorem d_L_law_306 : decode b_L_law 306 = .ok (.ireturn, 1) := by decide +kernel
theorem d_L_law_307 : decode b_L_law 307 = .ok (.goto 382, 3) := by decide +kernel
theorem d_L_law_310 : decode b_L_law 310 = .ok (.aload_n 1, 1) := by decide +kernel
theorem d_L_law_311 : decode b_L_law 311 = .ok (.aload_n 0, 1) := by decide +kernel
theorem d_L_law_312 : decode b_L_law 312 = .ok (.iload 4, 2) := by decide +kernel
theorem d_L_law_314 : decode b_L_law 314 = .ok (.iconst 1, 1) := by decide +kernel
theorem d_L_law_315 : decode b_L_law 315 = .ok (.iadd, 1) := by decide +kernel
theorem d_L_law_316 : decode b_L_law 316 = .ok (.iaload, 1) := by decide +kernel
theorem d_L_law_317 : decode b_L_law 317 = .ok (.invokevirtual 53, 3) := by decide +kernel
theorem d_L_law_320 : decode b_L_law 320 = .ok (.aload_n 2, 1) := by decide +kernel
theorem d_L_law_321 : decode b_L_law 321 = .ok (.aload_n 0, 1) := by decide +kernel
theorem d_L_law_322 : decode b_L_law 322 = .ok (.iload 4, 2) := by decide +kernel
theorem d_L_law_324 : decode b_L_law 324 = .ok (.iconst 1, 1) := by decide +kernel
theorem d_L_law_325 : decode b_L_law 325 = .ok (.iadd, 1) := by decide +kernel
theorem d_L_law_326 : decode b_L_law 326 = .ok (.iaload, 1) := by decide +kernel
theorem d_L_law_327 : decode b_L_law 327 = .ok (.invokevirtual 57, 3) := by decide +kernel
theorem d_L_law_330 : decode b_L_law 330 = .ok (.if_icmp .eq 359, 3) := by decide +kernel
theorem d_L_law_333 : decode b_L_law 333 = .ok (.iconst 0, 1) := by decide +kernel
theorem d_L_law_334 : decode b_L_law 334 = .ok (.ireturn, 1) := by decide +kernel
theorem d_L_law_335 : decode b_L_law 335 = .ok (.aload_n 1, 1) := by decide +kernel
theorem d_L_law_336 : decode b_L_law 336 = .ok (.aload_n 0, 1) := by decide +kernel
theorem d_L_law_337 : decode b_L_law 337 = .ok (.iload 4, 2) := by decide +kernel
theorem d_L_law_339 : decode b_L_law 339 = .ok (.iconst 1, 1) := by decide +kernel
theorem d_L_law_340 : decode b_L_law 340 = .ok (.iadd, 1) := by decide +kernel
theorem d_L_law_341 : decode b_L_law 341 = .ok (.iaload, 1) := by decide +kernel
theorem d_L_law_342 : decode b_L_law 342 = .ok (.aload_n 0, 1) := by decide +kernel
theorem d_L_law_343 : decode b_L_law 343 = .ok (.iload 4, 2) := by decide +kernel
theorem d_L_law_345 : decode b_L_law 345 = .ok (.iconst 2, 1) := by decide +kernel
theorem d_L_law_346 : decode b_L_law 346 = .ok (.iadd, 1) := by decide +kernel
theorem d_L_law_347 : decode b_L_law 347 = .ok (.iaload, 1) := by decide +kernel
theorem d_L_law_348 : decode b_L_law 348 = .ok (.aload_n 3, 1) := by decide +kernel
theorem d_L_law_349 : decode b_L_law 349 = .ok (.invokestatic 58, 3) := by decide +kernel
theorem d_L_law_352 : decode b_L_law 352 = .ok (.istore 5, 2) := by decide +kernel
theorem d_L_law_354 : decode b_L_law 354 = .ok (.aload_n 2, 1) := by decide +kernel
theorem d_L_law_355 : decode b_L_law 355 = .ok (.aload_n 0, 1) := by decide +kernel
theorem d_L_law_356 : decode b_L_law 356 = .ok (.iload 4, 2) := by decide +kernel
theorem d_L_law_358 : decode b_L_law 358 = .ok (.iconst 1, 1) := by decide +kernel
theorem d_L_law_359 : decode b_L_law 359 = .ok (.iadd, 1) := by decide +kernel
theorem d_L_law_360 : decode b_L_law 360 = .ok (.iaload, 1) := by decide +kernel
theorem d_L_law_361 : decode b_L_law 361 = .ok (.aload_n 0, 1) := by decide +kernel
theorem d_L_law_362 : decode b_L_law 362 = .ok (.iload 4, 2) := by decide +kernel
theorem d_L_law_364 : decode b_L_law 364 = .ok (.iconst 2, 1) := by decide +kernel
theorem d_L_law_365 : decode b_L_law 365 = .ok (.iadd, 1) := by decide +kernel
theorem d_L_law_366 : decode b_L_law 366 = .ok (.iaload, 1) := by decide +kernel
theorem d_L_law_367 : decode b_L_law 367 = .ok (.invokevirtual 60, 3) := by decide +kernel
theorem d_L_law_370 : decode b_L_law 370 = .ok (.istore 6, 2) := by decide +kernel
theorem d_L_law_372 : decode b_L_law 372 = .ok (.aload_n 2, 1) := by decide +kernel
theorem d_L_law_373 : decode b_L_law 373 = .ok (.invokevirtual 45, 3) := by decide +kernel
theorem d_L_law_376 : decode b_L_law 376 = .ok (.iload 5, 2) := by decide +kernel
theorem d_L_law_378 : decode b_L_law 378 = .ok (.if_icmp .eq 5, 3) := by decide +kernel
theorem d_L_law_381 : decode b_L_law 381 = .ok (.iconst 0, 1) := by decide +kernel
theorem d_L_law_382 : decode b_L_law 382 = .ok (.ireturn, 1) := by decide +kernel
theorem d_L_law_383 : decode b_L_law 383 = .ok (.iload 5, 2) := by decide +kernel
theorem d_L_law_385 : decode b_L_law 385 = .ok (.ifCond .ne 15, 3) := by decide +kernel
theorem d_L_law_388 : decode b_L_law 388 = .ok (.aload_n 3, 1) := by decide +kernel
theorem d_L_law_389 : decode b_L_law 389 = .ok (.iconst 0, 1) := by decide +kernel
theorem d_L_law_390 : decode b_L_law 390 = .ok (.laload, 1) := by decide +kernel
theorem d_L_law_391 : decode b_L_law 391 = .ok (.iload 6, 2) := by decide +kernel
theorem d_L_law_393 : decode b_L_law 393 = .ok (.i2l, 1) := by decide +kernel
theorem d_L_law_394 : decode b_L_law 394 = .ok (.lcmp, 1) := by decide +kernel
theorem d_L_law_395 : decode b_L_law 395 = .ok (.ifCond .eq 5, 3) := by decide +kernel
theorem d_L_law_398 : decode b_L_law 398 = .ok (.iconst 0, 1) := by decide +kernel
theorem d_L_law_399 : decode b_L_law 399 = .ok (.ireturn, 1) := by decide +kernel
theorem d_L_law_400 : decode b_L_law 400 = .ok (.goto 289, 3) := by decide +kernel
theorem d_L_law_403 : decode b_L_law 403 = .ok (.aload_n 1, 1) := by decide +kernel
theorem d_L_law_404 : decode b_L_law 404 = .ok (.aload_n 0, 1) := by decide +kernel
theorem d_L_law_405 : decode b_L_law 405 = .ok (.iload 4, 2) := by decide +kernel
theorem d_L_law_407 : decode b_L_law 407 = .ok (.iconst 1, 1) := by decide +kernel
theorem d_L_law_408 : decode b_L_law 408 = .ok (.iadd, 1) := by decide +kernel
theorem d_L_law_409 : decode b_L_law 409 = .ok (.iaload, 1) := by decide +kernel
theorem d_L_law_410 : decode b_L_law 410 = .ok (.aload_n 3, 1) := by decide +kernel
theorem d_L_law_411 : decode b_L_law 411 = .ok (.invokestatic 61, 3) := by decide +kernel
theorem d_L_law_414 : decode b_L_law 414 = .ok (.istore 5, 2) := by decide +kernel
theorem d_L_law_416 : decode b_L_law 416 = .ok (.aload_n 2, 1) := by decide +kernel
theorem d_L_law_417 : decode b_L_law 417 = .ok (.aload_n 0, 1) := by decide +kernel
theorem d_L_law_418 : decode b_L_law 418 = .ok (.iload 4, 2) := by decide +kernel
theorem d_L_law_420 : decode b_L_law 420 = .ok (.iconst 1, 1) := by decide +kernel
theorem d_L_law_421 : decode b_L_law 421 = .ok (.iadd, 1) := by decide +kernel
theorem d_L_law_422 : decode b_L_law 422 = .ok (.iaload, 1) := by decide +kernel
theorem d_L_law_423 : decode b_L_law 423 = .ok (.invokevirtual 64, 3) := by decide +kernel
theorem d_L_law_426 : decode b_L_law 426 = .ok (.istore 6, 2) := by decide +kernel
theorem d_L_law_428 : decode b_L_law 428 = .ok (.aload_n 2, 1) := by decide +kernel
theorem d_L_law_429 : decode b_L_law 429 = .ok (.invokevirtual 45, 3) := by decide +kernel
theorem d_L_law_432 : decode b_L_law 432 = .ok (.iload 5, 2) := by decide +kernel
theorem d_L_law_434 : decode b_L_law 434 = .ok (.if_icmp .eq 5, 3) := by decide +kernel
theorem d_L_law_437 : decode b_L_law 437 = .ok (.iconst 0, 1) := by decide +kernel
theorem d_L_law_438 : decode b_L_law 438 = .ok (.ireturn, 1) := by decide +kernel
theorem d_L_law_439 : decode b_L_law 439 = .ok (.iload 5, 2) := by decide +kernel
theorem d_L_law_441 : decode b_L_law 441 = .ok (.ifCond .ne 15, 3) := by decide +kernel
theorem d_L_law_444 : decode b_L_law 444 = .ok (.aload_n 3, 1) := by decide +kernel
theorem d_L_law_445 : decode b_L_law 445 = .ok (.iconst 0, 1) := by decide +kernel
theorem d_L_law_446 : decode b_L_law 446 = .ok (.laload, 1) := by decide +kernel
theorem d_L_law_447 : decode b_L_law 447 = .ok (.iload 6, 2) := by decide +kernel
theorem d_L_law_449 : decode b_L_law 449 = .ok (.i2l, 1) := by decide +kernel
theorem d_L_law_450 : decode b_L_law 450 = .ok (.lcmp, 1) := by decide +kernel
theorem d_L_law_451 : decode b_L_law 451 = .ok (.ifCond .eq 5, 3) := by decide +kernel
theorem d_L_law_454 : decode b_L_law 454 = .ok (.iconst 0, 1) := by decide +kernel
theorem d_L_law_455 : decode b_L_law 455 = .ok (.ireturn, 1) := by decide +kernel
theorem d_L_law_456 : decode b_L_law 456 = .ok (.goto 233, 3) := by decide +kernel
theorem d_L_law_459 : decode b_L_law 459 = .ok (.aload_n 1, 1) := by decide +kernel
theorem d_L_law_460 : decode b_L_law 460 = .ok (.aload_n 0, 1) := by decide +kernel
theorem d_L_law_461 : decode b_L_law 461 = .ok (.iload 4, 2) := by decide +kernel
theorem d_L_law_463 : decode b_L_law 463 = .ok (.iconst 1, 1) := by decide +kernel
theorem d_L_law_464 : decode b_L_law 464 = .ok (.iadd, 1) := by decide +kernel
theorem d_L_law_465 : decode b_L_law 465 = .ok (.iaload, 1) := by decide +kernel
theorem d_L_law_466 : decode b_L_law 466 = .ok (.invokevirtual 65, 3) := by decide +kernel
theorem d_L_law_469 : decode b_L_law 469 = .ok (.aload_n 2, 1) := by decide +kernel
theorem d_L_law_470 : decode b_L_law 470 = .ok (.aload_n 0, 1) := by decide +kernel
theorem d_L_law_471 : decode b_L_law 471 = .ok (.iload 4, 2) := by decide +kernel
theorem d_L_law_473 : decode b_L_law 473 = .ok (.iconst 1, 1) := by decide +kernel
theorem d_L_law_474 : decode b_L_law 474 = .ok (.iadd, 1) := by decide +kernel
theorem d_L_law_475 : decode b_L_law 475 = .ok (.iaload, 1) := by decide +kernel
theorem d_L_law_476 : decode b_L_law 476 = .ok (.invokevirtual 68, 3) := by decide +kernel
theorem d_L_law_479 : decode b_L_law 479 = .ok (.if_icmp .eq 210, 3) := by decide +kernel
theorem d_L_law_482 : decode b_L_law 482 = .ok (.iconst 0, 1) := by decide +kernel
theorem d_L_law_483 : decode b_L_law 483 = .ok (.ireturn, 1) := by decide +kernel
theorem d_L_law_484 : decode b_L_law 484 = .ok (.aload_n 1, 1) := by decide +kernel
theorem d_L_law_485 : decode b_L_law 485 = .ok (.aload_n 0, 1) := by decide +kernel
theorem d_L_law_486 : decode b_L_law 486 = .ok (.iload 4, 2) := by decide +kernel
theorem d_L_law_488 : decode b_L_law 488 = .ok (.iconst 1, 1) := by decide +kernel
theorem d_L_law_489 : decode b_L_law 489 = .ok (.iadd, 1) := by decide +kernel
theorem d_L_law_490 : decode b_L_law 490 = .ok (.iaload, 1) := by decide +kernel
theorem d_L_law_491 : decode b_L_law 491 = .ok (.invokevirtual 69, 3) := by decide +kernel
theorem d_L_law_494 : decode b_L_law 494 = .ok (.aload_n 2, 1) := by decide +kernel
theorem d_L_law_495 : decode b_L_law 495 = .ok (.aload_n 0, 1) := by decide +kernel
theorem d_L_law_496 : decode b_L_law 496 = .ok (.iload 4, 2) := by decide +kernel
theorem d_L_law_498 : decode b_L_law 498 = .ok (.iconst 1, 1) := by decide +kernel
theorem d_L_law_499 : decode b_L_law 499 = .ok (.iadd, 1) := by decide +kernel
theorem d_L_law_500 : decode b_L_law 500 = .ok (.iaload, 1) := by decide +kernel
theorem d_L_law_501 : decode b_L_law 501 = .ok (.invokevirtual 72, 3) := by decide +kernel
theorem d_L_law_504 : decode b_L_law 504 = .ok (.if_icmp .eq 185, 3) := by decide +kernel
theorem d_L_law_507 : decode b_L_law 507 = .ok (.iconst 0, 1) := by decide +kernel
theorem d_L_law_508 : decode b_L_law 508 = .ok (.ireturn, 1) := by decide +kernel
theorem d_L_law_509 : decode b_L_law 509 = .ok (.aload_n 1, 1) := by decide +kernel
theorem d_L_law_510 : decode b_L_law 510 = .ok (.aload_n 0, 1) := by decide +kernel
theorem d_L_law_511 : decode b_L_law 511 = .ok (.iload 4, 2) := by decide +kernel
theorem d_L_law_513 : decode b_L_law 513 = .ok (.iconst 1, 1) := by decide +kernel
theorem d_L_law_514 : decode b_L_law 514 = .ok (.iadd, 1) := by decide +kernel
theorem d_L_law_515 : decode b_L_law 515 = .ok (.iaload, 1) := by decide +kernel
theorem d_L_law_516 : decode b_L_law 516 = .ok (.aload_n 0, 1) := by decide +kernel
theorem d_L_law_517 : decode b_L_law 517 = .ok (.iload 4, 2) := by decide +kernel
theorem d_L_law_519 : decode b_L_law 519 = .ok (.iconst 2, 1) := by decide +kernel
theorem d_L_law_520 : decode b_L_law 520 = .ok (.iadd, 1) := by decide +kernel
theorem d_L_law_521 : decode b_L_law 521 = .ok (.iaload, 1) := by decide +kernel
theorem d_L_law_522 : decode b_L_law 522 = .ok (.aload_n 0, 1) := by decide +kernel
theorem d_L_law_523 : decode b_L_law 523 = .ok (.iload 4, 2) := by decide +kernel
theorem d_L_law_525 : decode b_L_law 525 = .ok (.iconst 3, 1) := by decide +kernel
theorem d_L_law_526 : decode b_L_law 526 = .ok (.iadd, 1) := by decide +kernel
theorem d_L_law_527 : decode b_L_law 527 = .ok (.iaload, 1) := by decide +kernel
theorem d_L_law_528 : decode b_L_law 528 = .ok (.invokevirtual 73, 3) := by decide +kernel
theorem d_L_law_531 : decode b_L_law 531 = .ok (.aload_n 2, 1) := by decide +kernel
theorem d_L_law_532 : decode b_L_law 532 = .ok (.aload_n 0, 1) := by decide +kernel
theorem d_L_law_533 : decode b_L_law 533 = .ok (.iload 4, 2) := by decide +kernel
theorem d_L_law_535 : decode b_L_law 535 = .ok (.iconst 1, 1) := by decide +kernel
theorem d_L_law_536 : decode b_L_law 536 = .ok (.iadd, 1) := by decide +kernel
theorem d_L_law_537 : decode b_L_law 537 = .ok (.iaload, 1) := by decide +kernel
theorem d_L_law_538 : decode b_L_law 538 = .ok (.aload_n 0, 1) := by decide +kernel
theorem d_L_law_539 : decode b_L_law 539 = .ok (.iload 4, 2) := by decide +kernel
theorem d_L_law_541 : decode b_L_law 541 = .ok (.iconst 2, 1) := by decide +kernel
theorem d_L_law_542 : decode b_L_law 542 = .ok (.iadd, 1) := by decide +kernel
theorem d_L_law_543 : decode b_L_law 543 = .ok (.iaload, 1) := by decide +kernel
theorem d_L_law_544 : decode b_L_law 544 = .ok (.aload_n 0, 1) := by decide +kernel
theorem d_L_law_545 : decode b_L_law 545 = .ok (.iload 4, 2) := by decide +kernel
theorem d_L_law_547 : decode b_L_law 547 = .ok (.iconst 3, 1) := by decide +kernel
theorem d_L_law_548 : decode b_L_law 548 = .ok (.iadd, 1) := by decide +kernel
theorem d_L_law_549 : decode b_L_law 549 = .ok (.iaload, 1) := by decide +kernel
theorem d_L_law_550 : decode b_L_law 550 = .ok (.invokevirtual 77, 3) := by decide +kernel
theorem d_L_law_553 : decode b_L_law 553 = .ok (.if_icmp .eq 136, 3) := by decide +kernel
theorem d_L_law_556 : decode b_L_law 556 = .ok (.iconst 0, 1) := by decide +kernel
theorem d_L_law_557 : decode b_L_law 557 = .ok (.ireturn, 1) := by decide +kernel
theorem d_L_law_558 : decode b_L_law 558 = .ok (.aload_n 1, 1) := by decide +kernel
theorem d_L_law_559 : decode b_L_law 559 = .ok (.aload_n 0, 1) := by decide +kernel
theorem d_L_law_560 : decode b_L_law 560 = .ok (.iload 4, 2) := by decide +kernel
theorem d_L_law_562 : decode b_L_law 562 = .ok (.iconst 1, 1) := by decide +kernel
theorem d_L_law_563 : decode b_L_law 563 = .ok (.iadd, 1) := by decide +kernel
theorem d_L_law_564 : decode b_L_law 564 = .ok (.iaload, 1) := by decide +kernel
theorem d_L_law_565 : decode b_L_law 565 = .ok (.aload_n 0, 1) := by decide +kernel
theorem d_L_law_566 : decode b_L_law 566 = .ok (.iload 4, 2) := by decide +kernel
theorem d_L_law_568 : decode b_L_law 568 = .ok (.iconst 2, 1) := by decide +kernel
theorem d_L_law_569 : decode b_L_law 569 = .ok (.iadd, 1) := by decide +kernel
theorem d_L_law_570 : decode b_L_law 570 = .ok (.iaload, 1) := by decide +kernel
theorem d_L_law_571 : decode b_L_law 571 = .ok (.aload_n 3, 1) := by decide +kernel
theorem d_L_law_572 : decode b_L_law 572 = .ok (.invokestatic 78, 3) := by decide +kernel
theorem d_L_law_575 : decode b_L_law 575 = .ok (.istore 5, 2) := by decide +kernel
theorem d_L_law_577 : decode b_L_law 577 = .ok (.aload_n 2, 1) := by decide +kernel
theorem d_L_law_578 : decode b_L_law 578 = .ok (.aload_n 0, 1) := by decide +kernel
theorem d_L_law_579 : decode b_L_law 579 = .ok (.iload 4, 2) := by decide +kernel
theorem d_L_law_581 : decode b_L_law 581 = .ok (.iconst 1, 1) := by decide +kernel
theorem d_L_law_582 : decode b_L_law 582 = .ok (.iadd, 1) := by decide +kernel
theorem d_L_law_583 : decode b_L_law 583 = .ok (.iaload, 1) := by decide +kernel
theorem d_L_law_584 : decode b_L_law 584 = .ok (.aload_n 0, 1) := by decide +kernel
theorem d_L_law_585 : decode b_L_law 585 = .ok (.iload 4, 2) := by decide +kernel
theorem d_L_law_587 : decode b_L_law 587 = .ok (.iconst 2, 1) := by decide +kernel
theorem d_L_law_588 : decode b_L_law 588 = .ok (.iadd, 1) := by decide +kernel
theorem d_L_law_589 : decode b_L_law 589 = .ok (.iaload, 1) := by decide +kernel
theorem d_L_law_590 : decode b_L_law 590 = .ok (.invokevirtual 80, 3) := by decide +kernel
theorem d_L_law_593 : decode b_L_law 593 = .ok (.istore 6, 2) := by decide +kernel
theorem d_L_law_595 : decode b_L_law 595 = .ok (.aload_n 2, 1) := by decide +kernel
theorem d_L_law_596 : decode b_L_law 596 = .ok (.invokevirtual 45, 3) := by decide +kernel
theorem d_L_law_599 : decode b_L_law 599 = .ok (.iload 5, 2) := by decide +kernel
theorem d_L_law_601 : decode b_L_law 601 = .ok (.if_icmp .eq 5, 3) := by decide +kernel
theorem d_L_law_604 : decode b_L_law 604 = .ok (.iconst 0, 1) := by decide +kernel
theorem d_L_law_605 : decode b_L_law 605 = .ok (.ireturn, 1) := by decide +kernel
theorem d_L_law_606 : decode b_L_law 606 = .ok (.iload 5, 2) := by decide +kernel
theorem d_L_law_608 : decode b_L_law 608 = .ok (.ifCond .ne 15, 3) := by decide +kernel
theorem d_L_law_611 : decode b_L_law 611 = .ok (.aload_n 3, 1) := by decide +kernel
theorem d_L_law_612 : decode b_L_law 612 = .ok (.iconst 0, 1) := by decide +kernel
theorem d_L_law_613 : decode b_L_law 613 = .ok (.laload, 1) := by decide +kernel
theorem d_L_law_614 : decode b_L_law 614 = .ok (.iload 6, 2) := by decide +kernel
theorem d_L_law_616 : decode b_L_law 616 = .ok (.i2l, 1) := by decide +kernel
theorem d_L_law_617 : decode b_L_law 617 = .ok (.lcmp, 1) := by decide +kernel
theorem d_L_law_618 : decode b_L_law 618 = .ok (.ifCond .eq 5, 3) := by decide +kernel
theorem d_L_law_621 : decode b_L_law 621 = .ok (.iconst 0, 1) := by decide +kernel
theorem d_L_law_622 : decode b_L_law 622 = .ok (.ireturn, 1) := by decide +kernel
theorem d_L_law_623 : decode b_L_law 623 = .ok (.goto 66, 3) := by decide +kernel
theorem d_L_law_626 : decode b_L_law 626 = .ok (.aload_n 1, 1) := by decide +kernel
theorem d_L_law_627 : decode b_L_law 627 = .ok (.aload_n 0, 1) := by decide +kernel
theorem d_L_law_628 : decode b_L_law 628 = .ok (.iload 4, 2) := by decide +kernel
theorem d_L_law_630 : decode b_L_law 630 = .ok (.iconst 1, 1) := by decide +kernel
theorem d_L_law_631 : decode b_L_law 631 = .ok (.iadd, 1) := by decide +kernel
theorem d_L_law_632 : decode b_L_law 632 = .ok (.iaload, 1) := by decide +kernel
theorem d_L_law_633 : decode b_L_law 633 = .ok (.invokevirtual 81, 3) := by decide +kernel
theorem d_L_law_636 : decode b_L_law 636 = .ok (.aload_n 2, 1) := by decide +kernel
theorem d_L_law_637 : decode b_L_law 637 = .ok (.aload_n 0, 1) := by decide +kernel
theorem d_L_law_638 : decode b_L_law 638 = .ok (.iload 4, 2) := by decide +kernel
theorem d_L_law_640 : decode b_L_law 640 = .ok (.iconst 1, 1) := by decide +kernel
theorem d_L_law_641 : decode b_L_law 641 = .ok (.iadd, 1) := by decide +kernel
theorem d_L_law_642 : decode b_L_law 642 = .ok (.iaload, 1) := by decide +kernel
theorem d_L_law_643 : decode b_L_law 643 = .ok (.invokevirtual 84, 3) := by decide +kernel
theorem d_L_law_646 : decode b_L_law 646 = .ok (.if_icmp .eq 43, 3) := by decide +kernel
theorem d_L_law_649 : decode b_L_law 649 = .ok (.iconst 0, 1) := by decide +kernel
theorem d_L_law_650 : decode b_L_law 650 = .ok (.ireturn, 1) := by decide +kernel
theorem d_L_law_651 : decode b_L_law 651 = .ok (.aload_n 1, 1) := by decide +kernel
theorem d_L_law_652 : decode b_L_law 652 = .ok (.invokevirtual 85, 3) := by decide +kernel
theorem d_L_law_655 : decode b_L_law 655 = .ok (.aload_n 2, 1) := by decide +kernel
theorem d_L_law_656 : decode b_L_law 656 = .ok (.invokevirtual 88, 3) := by decide +kernel
theorem d_L_law_659 : decode b_L_law 659 = .ok (.if_icmp .eq 30, 3) := by decide +kernel
theorem d_L_law_662 : decode b_L_law 662 = .ok (.iconst 0, 1) := by decide +kernel
theorem d_L_law_663 : decode b_L_law 663 = .ok (.ireturn, 1) := by decide +kernel
theorem d_L_law_664 : decode b_L_law 664 = .ok (.aload_n 1, 1) := by decide +kernel
theorem d_L_law_665 : decode b_L_law 665 = .ok (.aload_n 0, 1) := by decide +kernel
theorem d_L_law_666 : decode b_L_law 666 = .ok (.iload 4, 2) := by decide +kernel
theorem d_L_law_668 : decode b_L_law 668 = .ok (.iconst 1, 1) := by decide +kernel
theorem d_L_law_669 : decode b_L_law 669 = .ok (.iadd, 1) := by decide +kernel
theorem d_L_law_670 : decode b_L_law 670 = .ok (.iaload, 1) := by decide +kernel
theorem d_L_law_671 : decode b_L_law 671 = .ok (.invokevirtual 89, 3) := by decide +kernel
theorem d_L_law_674 : decode b_L_law 674 = .ok (.aload_n 2, 1) := by decide +kernel
theorem d_L_law_675 : decode b_L_law 675 = .ok (.aload_n 0, 1) := by decide +kernel
theorem d_L_law_676 : decode b_L_law 676 = .ok (.iload 4, 2) := by decide +kernel
theorem d_L_law_678 : decode b_L_law 678 = .ok (.iconst 1, 1) := by decide +kernel
theorem d_L_law_679 : decode b_L_law 679 = .ok (.iadd, 1) := by decide +kernel
theorem d_L_law_680 : decode b_L_law 680 = .ok (.iaload, 1) := by decide +kernel
theorem d_L_law_681 : decode b_L_law 681 = .ok (.invokevirtual 92, 3) := by decide +kernel
theorem d_L_law_684 : decode b_L_law 684 = .ok (.if_icmp .eq 5, 3) := by decide +kernel
theorem d_L_law_687 : decode b_L_law 687 = .ok (.iconst 0, 1) := by decide +kernel
theorem d_L_law_688 : decode b_L_law 688 = .ok (.ireturn, 1) := by decide +kernel
theorem d_L_law_689 : decode b_L_law 689 = .ok (.iinc 4 7, 3) := by decide +kernel
theorem d_L_law_692 : decode b_L_law 692 = .ok (.goto (-669), 3) := by decide +kernel
theorem d_L_law_695 : decode b_L_law 695 = .ok (.iconst 1, 1) := by decide +kernel
theorem d_L_law_696 : decode b_L_law 696 = .ok (.ireturn, 1) := by decide +kernel
