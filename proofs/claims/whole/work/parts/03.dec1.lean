theorem d_X_init_0 : decode b_X_init 0 = .ok (.aload_n 0, 1) := by decide +kernel
theorem d_X_init_1 : decode b_X_init 1 = .ok (.invokespecial 1, 3) := by decide +kernel
theorem d_X_init_4 : decode b_X_init 4 = .ok (.aload_n 0, 1) := by decide +kernel
theorem d_X_init_5 : decode b_X_init 5 = .ok (.iconst 4, 1) := by decide +kernel
theorem d_X_init_6 : decode b_X_init 6 = .ok (.anewarray 9, 3) := by decide +kernel
theorem d_X_init_9 : decode b_X_init 9 = .ok (.putfield 11, 3) := by decide +kernel
theorem d_X_init_12 : decode b_X_init 12 = .ok (.aload_n 0, 1) := by decide +kernel
theorem d_X_init_13 : decode b_X_init 13 = .ok (.bipush 8, 2) := by decide +kernel
theorem d_X_init_15 : decode b_X_init 15 = .ok (.anewarray 15, 3) := by decide +kernel
theorem d_X_init_18 : decode b_X_init 18 = .ok (.putfield 17, 3) := by decide +kernel
theorem d_X_init_21 : decode b_X_init 21 = .ok (.aload_n 0, 1) := by decide +kernel
theorem d_X_init_22 : decode b_X_init 22 = .ok (.new 21, 3) := by decide +kernel
theorem d_X_init_25 : decode b_X_init 25 = .ok (.dup, 1) := by decide +kernel
theorem d_X_init_26 : decode b_X_init 26 = .ok (.invokespecial 23, 3) := by decide +kernel
theorem d_X_init_29 : decode b_X_init 29 = .ok (.putfield 24, 3) := by decide +kernel
theorem d_X_init_32 : decode b_X_init 32 = .ok (.aload_n 0, 1) := by decide +kernel
theorem d_X_init_33 : decode b_X_init 33 = .ok (.iconst 0, 1) := by decide +kernel
theorem d_X_init_34 : decode b_X_init 34 = .ok (.putfield 28, 3) := by decide +kernel
theorem d_X_init_37 : decode b_X_init 37 = .ok (.aload_n 0, 1) := by decide +kernel
theorem d_X_init_38 : decode b_X_init 38 = .ok (.iconst 0, 1) := by decide +kernel
theorem d_X_init_39 : decode b_X_init 39 = .ok (.putfield 32, 3) := by decide +kernel
theorem d_X_init_42 : decode b_X_init 42 = .ok (.iconst 0, 1) := by decide +kernel
theorem d_X_init_43 : decode b_X_init 43 = .ok (.istore_n 1, 1) := by decide +kernel
theorem d_X_init_44 : decode b_X_init 44 = .ok (.iload_n 1, 1) := by decide +kernel
theorem d_X_init_45 : decode b_X_init 45 = .ok (.aload_n 0, 1) := by decide +kernel
theorem d_X_init_46 : decode b_X_init 46 = .ok (.getfield 11, 3) := by decide +kernel
theorem d_X_init_49 : decode b_X_init 49 = .ok (.arraylength, 1) := by decide +kernel
theorem d_X_init_50 : decode b_X_init 50 = .ok (.if_icmp .ge 22, 3) := by decide +kernel
theorem d_X_init_53 : decode b_X_init 53 = .ok (.aload_n 0, 1) := by decide +kernel
theorem d_X_init_54 : decode b_X_init 54 = .ok (.getfield 11, 3) := by decide +kernel
theorem d_X_init_57 : decode b_X_init 57 = .ok (.iload_n 1, 1) := by decide +kernel
theorem d_X_init_58 : decode b_X_init 58 = .ok (.new 9, 3) := by decide +kernel
theorem d_X_init_61 : decode b_X_init 61 = .ok (.dup, 1) := by decide +kernel
theorem d_X_init_62 : decode b_X_init 62 = .ok (.invokespecial 35, 3) := by decide +kernel
theorem d_X_init_65 : decode b_X_init 65 = .ok (.aastore, 1) := by decide +kernel
theorem d_X_init_66 : decode b_X_init 66 = .ok (.iinc 1 1, 3) := by decide +kernel
theorem d_X_init_69 : decode b_X_init 69 = .ok (.goto (-25), 3) := by decide +kernel
theorem d_X_init_72 : decode b_X_init 72 = .ok (.iconst 0, 1) := by decide +kernel
theorem d_X_init_73 : decode b_X_init 73 = .ok (.istore_n 1, 1) := by decide +kernel
theorem d_X_init_74 : decode b_X_init 74 = .ok (.iload_n 1, 1) := by decide +kernel
theorem d_X_init_75 : decode b_X_init 75 = .ok (.aload_n 0, 1) := by decide +kernel
theorem d_X_init_76 : decode b_X_init 76 = .ok (.getfield 17, 3) := by decide +kernel
theorem d_X_init_79 : decode b_X_init 79 = .ok (.arraylength, 1) := by decide +kernel
theorem d_X_init_80 : decode b_X_init 80 = .ok (.if_icmp .ge 22, 3) := by decide +kernel
theorem d_X_init_83 : decode b_X_init 83 = .ok (.aload_n 0, 1) := by decide +kernel
theorem d_X_init_84 : decode b_X_init 84 = .ok (.getfield 17, 3) := by decide +kernel
theorem d_X_init_87 : decode b_X_init 87 = .ok (.iload_n 1, 1) := by decide +kernel
theorem d_X_init_88 : decode b_X_init 88 = .ok (.new 15, 3) := by decide +kernel
theorem d_X_init_91 : decode b_X_init 91 = .ok (.dup, 1) := by decide +kernel
theorem d_X_init_92 : decode b_X_init 92 = .ok (.invokespecial 36, 3) := by decide +kernel
theorem d_X_init_95 : decode b_X_init 95 = .ok (.aastore, 1) := by decide +kernel
theorem d_X_init_96 : decode b_X_init 96 = .ok (.iinc 1 1, 3) := by decide +kernel
theorem d_X_init_99 : decode b_X_init 99 = .ok (.goto (-25), 3) := by decide +kernel
theorem d_X_init_102 : decode b_X_init 102 = .ok (.return_, 1) := by decide +kernel
theorem d_A_init_0 : decode b_A_init 0 = .ok (.aload_n 0, 1) := by decide +kernel
theorem d_A_init_1 : decode b_A_init 1 = .ok (.invokespecial 1, 3) := by decide +kernel
theorem d_A_init_4 : decode b_A_init 4 = .ok (.aload_n 0, 1) := by decide +kernel
theorem d_A_init_5 : decode b_A_init 5 = .ok (.getstatic 39, 3) := by decide +kernel
theorem d_A_init_8 : decode b_A_init 8 = .ok (.putfield 9, 3) := by decide +kernel
theorem d_A_init_11 : decode b_A_init 11 = .ok (.return_, 1) := by decide +kernel
theorem d_V_init_0 : decode b_V_init 0 = .ok (.aload_n 0, 1) := by decide +kernel
theorem d_V_init_1 : decode b_V_init 1 = .ok (.invokespecial 1, 3) := by decide +kernel
theorem d_V_init_4 : decode b_V_init 4 = .ok (.aload_n 0, 1) := by decide +kernel
theorem d_V_init_5 : decode b_V_init 5 = .ok (.iconst 0, 1) := by decide +kernel
theorem d_V_init_6 : decode b_V_init 6 = .ok (.putfield 7, 3) := by decide +kernel
theorem d_V_init_9 : decode b_V_init 9 = .ok (.return_, 1) := by decide +kernel
theorem d_W_init_0 : decode b_W_init 0 = .ok (.aload_n 0, 1) := by decide +kernel
theorem d_W_init_1 : decode b_W_init 1 = .ok (.invokespecial 1, 3) := by decide +kernel
theorem d_W_init_4 : decode b_W_init 4 = .ok (.return_, 1) := by decide +kernel
theorem d_Q_init_0 : decode b_Q_init 0 = .ok (.aload_n 0, 1) := by decide +kernel
theorem d_Q_init_1 : decode b_Q_init 1 = .ok (.invokespecial 3, 3) := by decide +kernel
theorem d_Q_init_4 : decode b_Q_init 4 = .ok (.aload_n 0, 1) := by decide +kernel
theorem d_Q_init_5 : decode b_Q_init 5 = .ok (.bipush 10, 2) := by decide +kernel
theorem d_Q_init_7 : decode b_Q_init 7 = .ok (.putfield 9, 3) := by decide +kernel
theorem d_Q_init_10 : decode b_Q_init 10 = .ok (.aload_n 0, 1) := by decide +kernel
theorem d_Q_init_11 : decode b_Q_init 11 = .ok (.iconst 5, 1) := by decide +kernel
theorem d_Q_init_12 : decode b_Q_init 12 = .ok (.putfield 15, 3) := by decide +kernel
theorem d_Q_init_15 : decode b_Q_init 15 = .ok (.aload_n 0, 1) := by decide +kernel
theorem d_Q_init_16 : decode b_Q_init 16 = .ok (.iconst 1, 1) := by decide +kernel
theorem d_Q_init_17 : decode b_Q_init 17 = .ok (.putfield 18, 3) := by decide +kernel
theorem d_Q_init_20 : decode b_Q_init 20 = .ok (.aload_n 0, 1) := by decide +kernel
theorem d_Q_init_21 : decode b_Q_init 21 = .ok (.bipush 60, 2) := by decide +kernel
theorem d_Q_init_23 : decode b_Q_init 23 = .ok (.putfield 21, 3) := by decide +kernel
theorem d_Q_init_26 : decode b_Q_init 26 = .ok (.aload_n 0, 1) := by decide +kernel
theorem d_Q_init_27 : decode b_Q_init 27 = .ok (.iconst 0, 1) := by decide +kernel
theorem d_Q_init_28 : decode b_Q_init 28 = .ok (.putfield 24, 3) := by decide +kernel
theorem d_Q_init_31 : decode b_Q_init 31 = .ok (.aload_n 0, 1) := by decide +kernel
theorem d_Q_init_32 : decode b_Q_init 32 = .ok (.iconst 0, 1) := by decide +kernel
theorem d_Q_init_33 : decode b_Q_init 33 = .ok (.putfield 27, 3) := by decide +kernel
theorem d_Q_init_36 : decode b_Q_init 36 = .ok (.return_, 1) := by decide +kernel
theorem d_G_init_0 : decode b_G_init 0 = .ok (.aload_n 0, 1) := by decide +kernel
theorem d_G_init_1 : decode b_G_init 1 = .ok (.invokespecial 3, 3) := by decide +kernel
theorem d_G_init_4 : decode b_G_init 4 = .ok (.aload_n 0, 1) := by decide +kernel
theorem d_G_init_5 : decode b_G_init 5 = .ok (.bipush 8, 2) := by decide +kernel
theorem d_G_init_7 : decode b_G_init 7 = .ok (.putfield 9, 3) := by decide +kernel
theorem d_G_init_10 : decode b_G_init 10 = .ok (.aload_n 0, 1) := by decide +kernel
theorem d_G_init_11 : decode b_G_init 11 = .ok (.iconst 0, 1) := by decide +kernel
theorem d_G_init_12 : decode b_G_init 12 = .ok (.putfield 15, 3) := by decide +kernel
theorem d_G_init_15 : decode b_G_init 15 = .ok (.return_, 1) := by decide +kernel
theorem d_X_beat_0 : decode b_X_beat 0 = .ok (.aload_n 0, 1) := by decide +kernel
theorem d_X_beat_1 : decode b_X_beat 1 = .ok (.iload_n 1, 1) := by decide +kernel
theorem d_X_beat_2 : decode b_X_beat 2 = .ok (.invokevirtual 101, 3) := by decide +kernel
theorem d_X_beat_5 : decode b_X_beat 5 = .ok (.astore_n 2, 1) := by decide +kernel
theorem d_X_beat_6 : decode b_X_beat 6 = .ok (.aload_n 2, 1) := by decide +kernel
theorem d_X_beat_7 : decode b_X_beat 7 = .ok (.ifnonnull 5, 3) := by decide +kernel
theorem d_X_beat_10 : decode b_X_beat 10 = .ok (.iconst 0, 1) := by decide +kernel
theorem d_X_beat_11 : decode b_X_beat 11 = .ok (.ireturn, 1) := by decide +kernel
theorem d_X_beat_12 : decode b_X_beat 12 = .ok (.aload_n 2, 1) := by decide +kernel
theorem d_X_beat_13 : decode b_X_beat 13 = .ok (.aload_n 0, 1) := by decide +kernel
theorem d_X_beat_14 : decode b_X_beat 14 = .ok (.getfield 28, 3) := by decide +kernel
theorem d_X_beat_17 : decode b_X_beat 17 = .ok (.aload_n 2, 1) := by decide +kernel
theorem d_X_beat_18 : decode b_X_beat 18 = .ok (.getfield 105, 3) := by decide +kernel
theorem d_X_beat_21 : decode b_X_beat 21 = .ok (.getfield 109, 3) := by decide +kernel
theorem d_X_beat_24 : decode b_X_beat 24 = .ok (.iadd, 1) := by decide +kernel
theorem d_X_beat_25 : decode b_X_beat 25 = .ok (.putfield 112, 3) := by decide +kernel
theorem d_X_beat_28 : decode b_X_beat 28 = .ok (.iconst 1, 1) := by decide +kernel
theorem d_X_beat_29 : decode b_X_beat 29 = .ok (.ireturn, 1) := by decide +kernel
theorem d_X_lentWith_0 : decode b_X_lentWith 0 = .ok (.iconst 0, 1) := by decide +kernel
theorem d_X_lentWith_1 : decode b_X_lentWith 1 = .ok (.istore_n 2, 1) := by decide +kernel
theorem d_X_lentWith_2 : decode b_X_lentWith 2 = .ok (.iload_n 2, 1) := by decide +kernel
theorem d_X_lentWith_3 : decode b_X_lentWith 3 = .ok (.aload_n 0, 1) := by decide +kernel
theorem d_X_lentWith_4 : decode b_X_lentWith 4 = .ok (.getfield 24, 3) := by decide +kernel
theorem d_X_lentWith_7 : decode b_X_lentWith 7 = .ok (.invokevirtual 66, 3) := by decide +kernel
theorem d_X_lentWith_10 : decode b_X_lentWith 10 = .ok (.if_icmp .ge 39, 3) := by decide +kernel
theorem d_X_lentWith_13 : decode b_X_lentWith 13 = .ok (.aload_n 0, 1) := by decide +kernel
theorem d_X_lentWith_14 : decode b_X_lentWith 14 = .ok (.getfield 24, 3) := by decide +kernel
theorem d_X_lentWith_17 : decode b_X_lentWith 17 = .ok (.iload_n 2, 1) := by decide +kernel
theorem d_X_lentWith_18 : decode b_X_lentWith 18 = .ok (.invokevirtual 140, 3) := by decide +kernel
theorem d_X_lentWith_21 : decode b_X_lentWith 21 = .ok (.checkcast 74, 3) := by decide +kernel
theorem d_X_lentWith_24 : decode b_X_lentWith 24 = .ok (.astore_n 3, 1) := by decide +kernel
theorem d_X_lentWith_25 : decode b_X_lentWith 25 = .ok (.aload_n 3, 1) := by decide +kernel
theorem d_X_lentWith_26 : decode b_X_lentWith 26 = .ok (.getfield 144, 3) := by decide +kernel
theorem d_X_lentWith_29 : decode b_X_lentWith 29 = .ok (.iconst 1, 1) := by decide +kernel
theorem d_X_lentWith_30 : decode b_X_lentWith 30 = .ok (.if_icmp .ne 13, 3) := by decide +kernel
theorem d_X_lentWith_33 : decode b_X_lentWith 33 = .ok (.aload_n 3, 1) := by decide +kernel
theorem d_X_lentWith_34 : decode b_X_lentWith 34 = .ok (.getfield 173, 3) := by decide +kernel
theorem d_X_lentWith_37 : decode b_X_lentWith 37 = .ok (.iload_n 1, 1) := by decide +kernel
theorem d_X_lentWith_38 : decode b_X_lentWith 38 = .ok (.if_icmp .ne 5, 3) := by decide +kernel
theorem d_X_lentWith_41 : decode b_X_lentWith 41 = .ok (.aload_n 3, 1) := by decide +kernel
theorem d_X_lentWith_42 : decode b_X_lentWith 42 = .ok (.areturn, 1) := by decide +kernel
theorem d_X_lentWith_43 : decode b_X_lentWith 43 = .ok (.iinc 2 1, 3) := by decide +kernel
theorem d_X_lentWith_46 : decode b_X_lentWith 46 = .ok (.goto (-44), 3) := by decide +kernel
theorem d_X_lentWith_49 : decode b_X_lentWith 49 = .ok (.aconst_null, 1) := by decide +kernel
theorem d_X_lentWith_50 : decode b_X_lentWith 50 = .ok (.areturn, 1) := by decide +kernel
theorem d_A_size_0 : decode b_A_size 0 = .ok (.aload_n 0, 1) := by decide +kernel
theorem d_A_size_1 : decode b_A_size 1 = .ok (.getfield 48, 3) := by decide +kernel
theorem d_A_size_4 : decode b_A_size 4 = .ok (.ireturn, 1) := by decide +kernel
theorem d_A_get_0 : decode b_A_get 0 = .ok (.iload_n 1, 1) := by decide +kernel
theorem d_A_get_1 : decode b_A_get 1 = .ok (.aload_n 0, 1) := by decide +kernel
theorem d_A_get_2 : decode b_A_get 2 = .ok (.getfield 48, 3) := by decide +kernel
theorem d_A_get_5 : decode b_A_get 5 = .ok (.invokestatic 118, 3) := by decide +kernel
theorem d_A_get_8 : decode b_A_get 8 = .ok (.pop, 1) := by decide +kernel
theorem d_A_get_9 : decode b_A_get 9 = .ok (.aload_n 0, 1) := by decide +kernel
theorem d_A_get_10 : decode b_A_get 10 = .ok (.iload_n 1, 1) := by decide +kernel
theorem d_A_get_11 : decode b_A_get 11 = .ok (.invokevirtual 123, 3) := by decide +kernel
theorem d_A_get_14 : decode b_A_get 14 = .ok (.areturn, 1) := by decide +kernel
theorem d_O_checkIndex_0 : decode b_O_checkIndex 0 = .ok (.iload_n 0, 1) := by decide +kernel
theorem d_O_checkIndex_1 : decode b_O_checkIndex 1 = .ok (.iload_n 1, 1) := by decide +kernel
theorem d_O_checkIndex_2 : decode b_O_checkIndex 2 = .ok (.aconst_null, 1) := by decide +kernel
theorem d_O_checkIndex_3 : decode b_O_checkIndex 3 = .ok (.invokestatic 105, 3) := by decide +kernel
theorem d_O_checkIndex_6 : decode b_O_checkIndex 6 = .ok (.ireturn, 1) := by decide +kernel
theorem d_P_checkIndex_0 : decode b_P_checkIndex 0 = .ok (.iload_n 0, 1) := by decide +kernel
theorem d_P_checkIndex_1 : decode b_P_checkIndex 1 = .ok (.ifCond .lt 8, 3) := by decide +kernel
theorem d_P_checkIndex_4 : decode b_P_checkIndex 4 = .ok (.iload_n 0, 1) := by decide +kernel
theorem d_P_checkIndex_5 : decode b_P_checkIndex 5 = .ok (.iload_n 1, 1) := by decide +kernel
theorem d_P_checkIndex_6 : decode b_P_checkIndex 6 = .ok (.if_icmp .lt 10, 3) := by decide +kernel
theorem d_P_checkIndex_9 : decode b_P_checkIndex 9 = .ok (.aload_n 2, 1) := by decide +kernel
theorem d_P_checkIndex_10 : decode b_P_checkIndex 10 = .ok (.iload_n 0, 1) := by decide +kernel
theorem d_P_checkIndex_11 : decode b_P_checkIndex 11 = .ok (.iload_n 1, 1) := by decide +kernel
theorem d_P_checkIndex_12 : decode b_P_checkIndex 12 = .ok (.invokestatic 95, 3) := by decide +kernel
theorem d_P_checkIndex_15 : decode b_P_checkIndex 15 = .ok (.athrow, 1) := by decide +kernel
theorem d_P_checkIndex_16 : decode b_P_checkIndex 16 = .ok (.iload_n 0, 1) := by decide +kernel
theorem d_P_checkIndex_17 : decode b_P_checkIndex 17 = .ok (.ireturn, 1) := by decide +kernel
theorem d_A_elementData_0 : decode b_A_elementData 0 = .ok (.aload_n 0, 1) := by decide +kernel
theorem d_A_elementData_1 : decode b_A_elementData 1 = .ok (.getfield 9, 3) := by decide +kernel
theorem d_A_elementData_4 : decode b_A_elementData 4 = .ok (.iload_n 1, 1) := by decide +kernel
theorem d_A_elementData_5 : decode b_A_elementData 5 = .ok (.aaload, 1) := by decide +kernel
theorem d_A_elementData_6 : decode b_A_elementData 6 = .ok (.areturn, 1) := by decide +kernel
theorem d_X_cancel_0 : decode b_X_cancel 0 = .ok (.aload_n 0, 1) := by decide +kernel
theorem d_X_cancel_1 : decode b_X_cancel 1 = .ok (.iload_n 1, 1) := by decide +kernel
theorem d_X_cancel_2 : decode b_X_cancel 2 = .ok (.invokevirtual 147, 3) := by decide +kernel
theorem d_X_cancel_5 : decode b_X_cancel 5 = .ok (.astore_n 2, 1) := by decide +kernel
theorem d_X_cancel_6 : decode b_X_cancel 6 = .ok (.aload_n 2, 1) := by decide +kernel
theorem d_X_cancel_7 : decode b_X_cancel 7 = .ok (.ifnull 10, 3) := by decide +kernel
theorem d_X_cancel_10 : decode b_X_cancel 10 = .ok (.aload_n 2, 1) := by decide +kernel
theorem d_X_cancel_11 : decode b_X_cancel 11 = .ok (.invokevirtual 150, 3) := by decide +kernel
theorem d_X_cancel_14 : decode b_X_cancel 14 = .ok (.ifCond .ne 5, 3) := by decide +kernel
theorem d_X_cancel_17 : decode b_X_cancel 17 = .ok (.iconst 0, 1) := by decide +kernel
theorem d_X_cancel_18 : decode b_X_cancel 18 = .ok (.ireturn, 1) := by decide +kernel
theorem d_X_cancel_19 : decode b_X_cancel 19 = .ok (.aload_n 2, 1) := by decide +kernel
theorem d_X_cancel_20 : decode b_X_cancel 20 = .ok (.iconst 4, 1) := by decide +kernel
theorem d_X_cancel_21 : decode b_X_cancel 21 = .ok (.invokevirtual 154, 3) := by decide +kernel
theorem d_X_cancel_24 : decode b_X_cancel 24 = .ok (.iconst 1, 1) := by decide +kernel
theorem d_X_cancel_25 : decode b_X_cancel 25 = .ok (.ireturn, 1) := by decide +kernel
theorem d_X_taskAt_0 : decode b_X_taskAt 0 = .ok (.iload_n 1, 1) := by decide +kernel
theorem d_X_taskAt_1 : decode b_X_taskAt 1 = .ok (.iconst 0, 1) := by decide +kernel
theorem d_X_taskAt_2 : decode b_X_taskAt 2 = .ok (.aload_n 0, 1) := by decide +kernel
theorem d_X_taskAt_3 : decode b_X_taskAt 3 = .ok (.getfield 24, 3) := by decide +kernel
theorem d_X_taskAt_6 : decode b_X_taskAt 6 = .ok (.invokevirtual 66, 3) := by decide +kernel
theorem d_X_taskAt_9 : decode b_X_taskAt 9 = .ok (.iconst 1, 1) := by decide +kernel
theorem d_X_taskAt_10 : decode b_X_taskAt 10 = .ok (.isub, 1) := by decide +kernel
theorem d_X_taskAt_11 : decode b_X_taskAt 11 = .ok (.invokestatic 41, 3) := by decide +kernel
theorem d_X_taskAt_14 : decode b_X_taskAt 14 = .ok (.ifCond .eq 17, 3) := by decide +kernel
theorem d_X_taskAt_17 : decode b_X_taskAt 17 = .ok (.aload_n 0, 1) := by decide +kernel
theorem d_X_taskAt_18 : decode b_X_taskAt 18 = .ok (.getfield 24, 3) := by decide +kernel
theorem d_X_taskAt_21 : decode b_X_taskAt 21 = .ok (.iload_n 1, 1) := by decide +kernel
theorem d_X_taskAt_22 : decode b_X_taskAt 22 = .ok (.invokevirtual 140, 3) := by decide +kernel
theorem d_X_taskAt_25 : decode b_X_taskAt 25 = .ok (.checkcast 74, 3) := by decide +kernel
theorem d_X_taskAt_28 : decode b_X_taskAt 28 = .ok (.goto 4, 3) := by decide +kernel
theorem d_X_taskAt_31 : decode b_X_taskAt 31 = .ok (.aconst_null, 1) := by decide +kernel
theorem d_X_taskAt_32 : decode b_X_taskAt 32 = .ok (.areturn, 1) := by decide +kernel
theorem d_X_within_0 : decode b_X_within 0 = .ok (.iload_n 0, 1) := by decide +kernel
theorem d_X_within_1 : decode b_X_within 1 = .ok (.iload_n 1, 1) := by decide +kernel
theorem d_X_within_2 : decode b_X_within 2 = .ok (.if_icmp .lt 12, 3) := by decide +kernel
theorem d_X_within_5 : decode b_X_within 5 = .ok (.iload_n 0, 1) := by decide +kernel
theorem d_X_within_6 : decode b_X_within 6 = .ok (.iload_n 2, 1) := by decide +kernel
theorem d_X_within_7 : decode b_X_within 7 = .ok (.if_icmp .gt 7, 3) := by decide +kernel
theorem d_X_within_10 : decode b_X_within 10 = .ok (.iconst 1, 1) := by decide +kernel
theorem d_X_within_11 : decode b_X_within 11 = .ok (.goto 4, 3) := by decide +kernel
theorem d_X_within_14 : decode b_X_within 14 = .ok (.iconst 0, 1) := by decide +kernel
theorem d_X_within_15 : decode b_X_within 15 = .ok (.ireturn, 1) := by decide +kernel
theorem d_T_isLive_0 : decode b_T_isLive 0 = .ok (.aload_n 0, 1) := by decide +kernel
theorem d_T_isLive_1 : decode b_T_isLive 1 = .ok (.getfield 9, 3) := by decide +kernel
theorem d_T_isLive_4 : decode b_T_isLive 4 = .ok (.ifCond .eq 11, 3) := by decide +kernel
theorem d_T_isLive_7 : decode b_T_isLive 7 = .ok (.aload_n 0, 1) := by decide +kernel
theorem d_T_isLive_8 : decode b_T_isLive 8 = .ok (.getfield 9, 3) := by decide +kernel
theorem d_T_isLive_11 : decode b_T_isLive 11 = .ok (.iconst 1, 1) := by decide +kernel
theorem d_T_isLive_12 : decode b_T_isLive 12 = .ok (.if_icmp .ne 7, 3) := by decide +kernel
theorem d_T_isLive_15 : decode b_T_isLive 15 = .ok (.iconst 1, 1) := by decide +kernel
theorem d_T_isLive_16 : decode b_T_isLive 16 = .ok (.goto 4, 3) := by decide +kernel
theorem d_T_isLive_19 : decode b_T_isLive 19 = .ok (.iconst 0, 1) := by decide +kernel
theorem d_T_isLive_20 : decode b_T_isLive 20 = .ok (.ireturn, 1) := by decide +kernel
theorem d_T_become_0 : decode b_T_become 0 = .ok (.aload_n 0, 1) := by decide +kernel
theorem d_T_become_1 : decode b_T_become 1 = .ok (.getfield 40, 3) := by decide +kernel
theorem d_T_become_4 : decode b_T_become 4 = .ok (.ifnull 24, 3) := by decide +kernel
theorem d_T_become_7 : decode b_T_become 7 = .ok (.aload_n 0, 1) := by decide +kernel
theorem d_T_become_8 : decode b_T_become 8 = .ok (.getfield 9, 3) := by decide +kernel
theorem d_T_become_11 : decode b_T_become 11 = .ok (.iconst 1, 1) := by decide +kernel
theorem d_T_become_12 : decode b_T_become 12 = .ok (.if_icmp .ne 16, 3) := by decide +kernel
theorem d_T_become_15 : decode b_T_become 15 = .ok (.aload_n 0, 1) := by decide +kernel
theorem d_T_become_16 : decode b_T_become 16 = .ok (.getfield 40, 3) := by decide +kernel
theorem d_T_become_19 : decode b_T_become 19 = .ok (.dup, 1) := by decide +kernel
theorem d_T_become_20 : decode b_T_become 20 = .ok (.getfield 55, 3) := by decide +kernel
theorem d_T_become_23 : decode b_T_become 23 = .ok (.iconst 1, 1) := by decide +kernel
theorem d_T_become_24 : decode b_T_become 24 = .ok (.isub, 1) := by decide +kernel
theorem d_T_become_25 : decode b_T_become 25 = .ok (.putfield 55, 3) := by decide +kernel
theorem d_T_become_28 : decode b_T_become 28 = .ok (.aload_n 0, 1) := by decide +kernel
theorem d_T_become_29 : decode b_T_become 29 = .ok (.getfield 40, 3) := by decide +kernel
theorem d_T_become_32 : decode b_T_become 32 = .ok (.ifnull 21, 3) := by decide +kernel
theorem d_T_become_35 : decode b_T_become 35 = .ok (.iload_n 1, 1) := by decide +kernel
theorem d_T_become_36 : decode b_T_become 36 = .ok (.iconst 1, 1) := by decide +kernel
theorem d_T_become_37 : decode b_T_become 37 = .ok (.if_icmp .ne 16, 3) := by decide +kernel
theorem d_T_become_40 : decode b_T_become 40 = .ok (.aload_n 0, 1) := by decide +kernel
theorem d_T_become_41 : decode b_T_become 41 = .ok (.getfield 40, 3) := by decide +kernel
theorem d_T_become_44 : decode b_T_become 44 = .ok (.dup, 1) := by decide +kernel
theorem d_T_become_45 : decode b_T_become 45 = .ok (.getfield 55, 3) := by decide +kernel
theorem d_T_become_48 : decode b_T_become 48 = .ok (.iconst 1, 1) := by decide +kernel
theorem d_T_become_49 : decode b_T_become 49 = .ok (.iadd, 1) := by decide +kernel
theorem d_T_become_50 : decode b_T_become 50 = .ok (.putfield 55, 3) := by decide +kernel
theorem d_T_become_53 : decode b_T_become 53 = .ok (.aload_n 0, 1) := by decide +kernel
theorem d_T_become_54 : decode b_T_become 54 = .ok (.iload_n 1, 1) := by decide +kernel
theorem d_T_become_55 : decode b_T_become 55 = .ok (.putfield 9, 3) := by decide +kernel
theorem d_T_become_58 : decode b_T_become 58 = .ok (.return_, 1) := by decide +kernel
theorem d_X_revive_0 : decode b_X_revive 0 = .ok (.aload_n 0, 1) := by decide +kernel
theorem d_X_revive_1 : decode b_X_revive 1 = .ok (.iload_n 1, 1) := by decide +kernel
theorem d_X_revive_2 : decode b_X_revive 2 = .ok (.invokevirtual 147, 3) := by decide +kernel
theorem d_X_revive_5 : decode b_X_revive 5 = .ok (.astore_n 2, 1) := by decide +kernel
theorem d_X_revive_6 : decode b_X_revive 6 = .ok (.aload_n 2, 1) := by decide +kernel
theorem d_X_revive_7 : decode b_X_revive 7 = .ok (.ifnull 20, 3) := by decide +kernel
theorem d_X_revive_10 : decode b_X_revive 10 = .ok (.aload_n 2, 1) := by decide +kernel
theorem d_X_revive_11 : decode b_X_revive 11 = .ok (.getfield 144, 3) := by decide +kernel
theorem d_X_revive_14 : decode b_X_revive 14 = .ok (.iconst 3, 1) := by decide +kernel
theorem d_X_revive_15 : decode b_X_revive 15 = .ok (.if_icmp .ne 12, 3) := by decide +kernel
theorem d_X_revive_18 : decode b_X_revive 18 = .ok (.aload_n 0, 1) := by decide +kernel
theorem d_X_revive_19 : decode b_X_revive 19 = .ok (.invokevirtual 62, 3) := by decide +kernel
theorem d_X_revive_22 : decode b_X_revive 22 = .ok (.bipush 64, 2) := by decide +kernel
theorem d_X_revive_24 : decode b_X_revive 24 = .ok (.if_icmp .lt 5, 3) := by decide +kernel
theorem d_X_revive_27 : decode b_X_revive 27 = .ok (.iconst 0, 1) := by decide +kernel
theorem d_X_revive_28 : decode b_X_revive 28 = .ok (.ireturn, 1) := by decide +kernel
theorem d_X_revive_29 : decode b_X_revive 29 = .ok (.aload_n 2, 1) := by decide +kernel
theorem d_X_revive_30 : decode b_X_revive 30 = .ok (.aload_n 0, 1) := by decide +kernel
theorem d_X_revive_31 : decode b_X_revive 31 = .ok (.getfield 28, 3) := by decide +kernel
theorem d_X_revive_34 : decode b_X_revive 34 = .ok (.invokevirtual 127, 3) := by decide +kernel
theorem d_X_revive_37 : decode b_X_revive 37 = .ok (.aload_n 2, 1) := by decide +kernel
theorem d_X_revive_38 : decode b_X_revive 38 = .ok (.iconst 0, 1) := by decide +kernel
theorem d_X_revive_39 : decode b_X_revive 39 = .ok (.putfield 130, 3) := by decide +kernel
theorem d_X_revive_42 : decode b_X_revive 42 = .ok (.iconst 1, 1) := by decide +kernel
theorem d_X_revive_43 : decode b_X_revive 43 = .ok (.ireturn, 1) := by decide +kernel
theorem d_X_liveTasks_0 : decode b_X_liveTasks 0 = .ok (.aload_n 0, 1) := by decide +kernel
theorem d_X_liveTasks_1 : decode b_X_liveTasks 1 = .ok (.iconst 0, 1) := by decide +kernel
theorem d_X_liveTasks_2 : decode b_X_liveTasks 2 = .ok (.invokevirtual 187, 3) := by decide +kernel
theorem d_X_liveTasks_5 : decode b_X_liveTasks 5 = .ok (.aload_n 0, 1) := by decide +kernel
theorem d_X_liveTasks_6 : decode b_X_liveTasks 6 = .ok (.iconst 1, 1) := by decide +kernel
theorem d_X_liveTasks_7 : decode b_X_liveTasks 7 = .ok (.invokevirtual 187, 3) := by decide +kernel
theorem d_X_liveTasks_10 : decode b_X_liveTasks 10 = .ok (.iadd, 1) := by decide +kernel
theorem d_X_liveTasks_11 : decode b_X_liveTasks 11 = .ok (.ireturn, 1) := by decide +kernel
theorem d_X_tasksThatAre_0 : decode b_X_tasksThatAre 0 = .ok (.iconst 0, 1) := by decide +kernel
theorem d_X_tasksThatAre_1 : decode b_X_tasksThatAre 1 = .ok (.istore_n 2, 1) := by decide +kernel
theorem d_X_tasksThatAre_2 : decode b_X_tasksThatAre 2 = .ok (.iconst 0, 1) := by decide +kernel
theorem d_X_tasksThatAre_3 : decode b_X_tasksThatAre 3 = .ok (.istore_n 3, 1) := by decide +kernel
theorem d_X_tasksThatAre_4 : decode b_X_tasksThatAre 4 = .ok (.iload_n 3, 1) := by decide +kernel
theorem d_X_tasksThatAre_5 : decode b_X_tasksThatAre 5 = .ok (.aload_n 0, 1) := by decide +kernel
theorem d_X_tasksThatAre_6 : decode b_X_tasksThatAre 6 = .ok (.getfield 24, 3) := by decide +kernel
theorem d_X_tasksThatAre_9 : decode b_X_tasksThatAre 9 = .ok (.invokevirtual 66, 3) := by decide +kernel
theorem d_X_tasksThatAre_12 : decode b_X_tasksThatAre 12 = .ok (.if_icmp .ge 30, 3) := by decide +kernel
theorem d_X_tasksThatAre_15 : decode b_X_tasksThatAre 15 = .ok (.aload_n 0, 1) := by decide +kernel
theorem d_X_tasksThatAre_16 : decode b_X_tasksThatAre 16 = .ok (.getfield 24, 3) := by decide +kernel
theorem d_X_tasksThatAre_19 : decode b_X_tasksThatAre 19 = .ok (.iload_n 3, 1) := by decide +kernel
theorem d_X_tasksThatAre_20 : decode b_X_tasksThatAre 20 = .ok (.invokevirtual 140, 3) := by decide +kernel
theorem d_X_tasksThatAre_23 : decode b_X_tasksThatAre 23 = .ok (.checkcast 74, 3) := by decide +kernel
theorem d_X_tasksThatAre_26 : decode b_X_tasksThatAre 26 = .ok (.getfield 144, 3) := by decide +kernel
theorem d_X_tasksThatAre_29 : decode b_X_tasksThatAre 29 = .ok (.iload_n 1, 1) := by decide +kernel
theorem d_X_tasksThatAre_30 : decode b_X_tasksThatAre 30 = .ok (.if_icmp .ne 6, 3) := by decide +kernel
theorem d_X_tasksThatAre_33 : decode b_X_tasksThatAre 33 = .ok (.iinc 2 1, 3) := by decide +kernel
theorem d_X_tasksThatAre_36 : decode b_X_tasksThatAre 36 = .ok (.iinc 3 1, 3) := by decide +kernel
theorem d_X_tasksThatAre_39 : decode b_X_tasksThatAre 39 = .ok (.goto (-35), 3) := by decide +kernel
theorem d_X_tasksThatAre_42 : decode b_X_tasksThatAre 42 = .ok (.iload_n 2, 1) := by decide +kernel
theorem d_X_tasksThatAre_43 : decode b_X_tasksThatAre 43 = .ok (.ireturn, 1) := by decide +kernel
theorem d_T_becomeWaiting_0 : decode b_T_becomeWaiting 0 = .ok (.aload_n 0, 1) := by decide +kernel
theorem d_T_becomeWaiting_1 : decode b_T_becomeWaiting 1 = .ok (.iconst 0, 1) := by decide +kernel
theorem d_T_becomeWaiting_2 : decode b_T_becomeWaiting 2 = .ok (.invokevirtual 85, 3) := by decide +kernel
theorem d_T_becomeWaiting_5 : decode b_T_becomeWaiting 5 = .ok (.aload_n 0, 1) := by decide +kernel
theorem d_T_becomeWaiting_6 : decode b_T_becomeWaiting 6 = .ok (.iload_n 1, 1) := by decide +kernel
theorem d_T_becomeWaiting_7 : decode b_T_becomeWaiting 7 = .ok (.putfield 48, 3) := by decide +kernel
theorem d_T_becomeWaiting_10 : decode b_T_becomeWaiting 10 = .ok (.return_, 1) := by decide +kernel
theorem d_X_set_0 : decode b_X_set 0 = .ok (.iload_n 1, 1) := by decide +kernel
theorem d_X_set_1 : decode b_X_set 1 = .ok (.bipush 6, 2) := by decide +kernel
theorem d_X_set_3 : decode b_X_set 3 = .ok (.if_icmp .ne 13, 3) := by decide +kernel
theorem d_X_set_6 : decode b_X_set 6 = .ok (.aload_n 0, 1) := by decide +kernel
theorem d_X_set_7 : decode b_X_set 7 = .ok (.iload_n 2, 1) := by decide +kernel
theorem d_X_set_8 : decode b_X_set 8 = .ok (.invokevirtual 52, 3) := by decide +kernel
theorem d_X_set_11 : decode b_X_set 11 = .ok (.iload_n 3, 1) := by decide +kernel
theorem d_X_set_12 : decode b_X_set 12 = .ok (.invokestatic 157, 3) := by decide +kernel
theorem d_X_set_15 : decode b_X_set 15 = .ok (.ireturn, 1) := by decide +kernel
theorem d_X_set_16 : decode b_X_set 16 = .ok (.aload_n 0, 1) := by decide +kernel
theorem d_X_set_17 : decode b_X_set 17 = .ok (.iload_n 2, 1) := by decide +kernel
theorem d_X_set_18 : decode b_X_set 18 = .ok (.invokevirtual 37, 3) := by decide +kernel
theorem d_X_set_21 : decode b_X_set 21 = .ok (.astore 4, 2) := by decide +kernel
theorem d_X_set_23 : decode b_X_set 23 = .ok (.aload 4, 2) := by decide +kernel
theorem d_X_set_25 : decode b_X_set 25 = .ok (.ifnull 17, 3) := by decide +kernel
theorem d_X_set_28 : decode b_X_set 28 = .ok (.aload 4, 2) := by decide +kernel
theorem d_X_set_30 : decode b_X_set 30 = .ok (.iload_n 1, 1) := by decide +kernel
theorem d_X_set_31 : decode b_X_set 31 = .ok (.iload_n 3, 1) := by decide +kernel
theorem d_X_set_32 : decode b_X_set 32 = .ok (.invokevirtual 161, 3) := by decide +kernel
theorem d_X_set_35 : decode b_X_set 35 = .ok (.ifCond .eq 7, 3) := by decide +kernel
theorem d_X_set_38 : decode b_X_set 38 = .ok (.iconst 1, 1) := by decide +kernel
theorem d_X_set_39 : decode b_X_set 39 = .ok (.goto 4, 3) := by decide +kernel
theorem d_X_set_42 : decode b_X_set 42 = .ok (.iconst 0, 1) := by decide +kernel
theorem d_X_set_43 : decode b_X_set 43 = .ok (.ireturn, 1) := by decide +kernel
theorem d_X_groupAt_0 : decode b_X_groupAt 0 = .ok (.iload_n 1, 1) := by decide +kernel
theorem d_X_groupAt_1 : decode b_X_groupAt 1 = .ok (.iconst 0, 1) := by decide +kernel
theorem d_X_groupAt_2 : decode b_X_groupAt 2 = .ok (.aload_n 0, 1) := by decide +kernel
theorem d_X_groupAt_3 : decode b_X_groupAt 3 = .ok (.getfield 17, 3) := by decide +kernel
theorem d_X_groupAt_6 : decode b_X_groupAt 6 = .ok (.arraylength, 1) := by decide +kernel
theorem d_X_groupAt_7 : decode b_X_groupAt 7 = .ok (.iconst 1, 1) := by decide +kernel
theorem d_X_groupAt_8 : decode b_X_groupAt 8 = .ok (.isub, 1) := by decide +kernel
theorem d_X_groupAt_9 : decode b_X_groupAt 9 = .ok (.invokestatic 41, 3) := by decide +kernel
theorem d_X_groupAt_12 : decode b_X_groupAt 12 = .ok (.ifCond .eq 12, 3) := by decide +kernel
theorem d_X_groupAt_15 : decode b_X_groupAt 15 = .ok (.aload_n 0, 1) := by decide +kernel
theorem d_X_groupAt_16 : decode b_X_groupAt 16 = .ok (.getfield 17, 3) := by decide +kernel
theorem d_X_groupAt_19 : decode b_X_groupAt 19 = .ok (.iload_n 1, 1) := by decide +kernel
theorem d_X_groupAt_20 : decode b_X_groupAt 20 = .ok (.aaload, 1) := by decide +kernel
theorem d_X_groupAt_21 : decode b_X_groupAt 21 = .ok (.goto 4, 3) := by decide +kernel
theorem d_X_groupAt_24 : decode b_X_groupAt 24 = .ok (.aconst_null, 1) := by decide +kernel
theorem d_X_groupAt_25 : decode b_X_groupAt 25 = .ok (.areturn, 1) := by decide +kernel
theorem d_X_changeLimit_0 : decode b_X_changeLimit 0 = .ok (.aload_n 0, 1) := by decide +kernel
theorem d_X_changeLimit_1 : decode b_X_changeLimit 1 = .ok (.ifnull 13, 3) := by decide +kernel
theorem d_X_changeLimit_4 : decode b_X_changeLimit 4 = .ok (.iload_n 1, 1) := by decide +kernel
theorem d_X_changeLimit_5 : decode b_X_changeLimit 5 = .ok (.iconst 0, 1) := by decide +kernel
theorem d_X_changeLimit_6 : decode b_X_changeLimit 6 = .ok (.bipush 8, 2) := by decide +kernel
theorem d_X_changeLimit_8 : decode b_X_changeLimit 8 = .ok (.invokestatic 41, 3) := by decide +kernel
theorem d_X_changeLimit_11 : decode b_X_changeLimit 11 = .ok (.ifCond .ne 5, 3) := by decide +kernel
theorem d_X_changeLimit_14 : decode b_X_changeLimit 14 = .ok (.iconst 0, 1) := by decide +kernel
theorem d_X_changeLimit_15 : decode b_X_changeLimit 15 = .ok (.ireturn, 1) := by decide +kernel
theorem d_X_changeLimit_16 : decode b_X_changeLimit 16 = .ok (.aload_n 0, 1) := by decide +kernel
theorem d_X_changeLimit_17 : decode b_X_changeLimit 17 = .ok (.iload_n 1, 1) := by decide +kernel
theorem d_X_changeLimit_18 : decode b_X_changeLimit 18 = .ok (.putfield 200, 3) := by decide +kernel
theorem d_X_changeLimit_21 : decode b_X_changeLimit 21 = .ok (.iconst 1, 1) := by decide +kernel
theorem d_X_changeLimit_22 : decode b_X_changeLimit 22 = .ok (.ireturn, 1) := by decide +kernel
theorem d_X_queueAt_0 : decode b_X_queueAt 0 = .ok (.iload_n 1, 1) := by decide +kernel
theorem d_X_queueAt_1 : decode b_X_queueAt 1 = .ok (.iconst 0, 1) := by decide +kernel
theorem d_X_queueAt_2 : decode b_X_queueAt 2 = .ok (.aload_n 0, 1) := by decide +kernel
theorem d_X_queueAt_3 : decode b_X_queueAt 3 = .ok (.getfield 11, 3) := by decide +kernel
theorem d_X_queueAt_6 : decode b_X_queueAt 6 = .ok (.arraylength, 1) := by decide +kernel
theorem d_X_queueAt_7 : decode b_X_queueAt 7 = .ok (.iconst 1, 1) := by decide +kernel
theorem d_X_queueAt_8 : decode b_X_queueAt 8 = .ok (.isub, 1) := by decide +kernel
theorem d_X_queueAt_9 : decode b_X_queueAt 9 = .ok (.invokestatic 41, 3) := by decide +kernel
theorem d_X_queueAt_12 : decode b_X_queueAt 12 = .ok (.ifCond .eq 12, 3) := by decide +kernel
theorem d_X_queueAt_15 : decode b_X_queueAt 15 = .ok (.aload_n 0, 1) := by decide +kernel
theorem d_X_queueAt_16 : decode b_X_queueAt 16 = .ok (.getfield 11, 3) := by decide +kernel
theorem d_X_queueAt_19 : decode b_X_queueAt 19 = .ok (.iload_n 1, 1) := by decide +kernel
theorem d_X_queueAt_20 : decode b_X_queueAt 20 = .ok (.aaload, 1) := by decide +kernel
theorem d_X_queueAt_21 : decode b_X_queueAt 21 = .ok (.goto 4, 3) := by decide +kernel
theorem d_X_queueAt_24 : decode b_X_queueAt 24 = .ok (.aconst_null, 1) := by decide +kernel
theorem d_X_queueAt_25 : decode b_X_queueAt 25 = .ok (.areturn, 1) := by decide +kernel
theorem d_Q_change_0 : decode b_Q_change 0 = .ok (.iload_n 1, 1) := by decide +kernel
theorem d_Q_change_1 : decode b_Q_change 1 = .ok (.iload_n 2, 1) := by decide +kernel
theorem d_Q_change_2 : decode b_Q_change 2 = .ok (.invokestatic 30, 3) := by decide +kernel
theorem d_Q_change_5 : decode b_Q_change 5 = .ok (.ifCond .ne 5, 3) := by decide +kernel
theorem d_Q_change_8 : decode b_Q_change 8 = .ok (.iconst 0, 1) := by decide +kernel
theorem d_Q_change_9 : decode b_Q_change 9 = .ok (.ireturn, 1) := by decide +kernel
theorem d_Q_change_10 : decode b_Q_change 10 = .ok (.iload_n 1, 1) := by decide +kernel
theorem d_Q_change_11 : decode b_Q_change 11 = .ok (.tableswitch 85 0 5 #[37, 45, 53, 61, 69, 77], 37) := by decide +kernel
theorem d_Q_change_48 : decode b_Q_change 48 = .ok (.aload_n 0, 1) := by decide +kernel
theorem d_Q_change_49 : decode b_Q_change 49 = .ok (.iload_n 2, 1) := by decide +kernel
theorem d_Q_change_50 : decode b_Q_change 50 = .ok (.putfield 9, 3) := by decide +kernel
theorem d_Q_change_53 : decode b_Q_change 53 = .ok (.goto 45, 3) := by decide +kernel
theorem d_Q_change_56 : decode b_Q_change 56 = .ok (.aload_n 0, 1) := by decide +kernel
theorem d_Q_change_57 : decode b_Q_change 57 = .ok (.iload_n 2, 1) := by decide +kernel
theorem d_Q_change_58 : decode b_Q_change 58 = .ok (.putfield 15, 3) := by decide +kernel
theorem d_Q_change_61 : decode b_Q_change 61 = .ok (.goto 37, 3) := by decide +kernel
theorem d_Q_change_64 : decode b_Q_change 64 = .ok (.aload_n 0, 1) := by decide +kernel
theorem d_Q_change_65 : decode b_Q_change 65 = .ok (.iload_n 2, 1) := by decide +kernel
theorem d_Q_change_66 : decode b_Q_change 66 = .ok (.putfield 18, 3) := by decide +kernel
theorem d_Q_change_69 : decode b_Q_change 69 = .ok (.goto 29, 3) := by decide +kernel
theorem d_Q_change_72 : decode b_Q_change 72 = .ok (.aload_n 0, 1) := by decide +kernel
theorem d_Q_change_73 : decode b_Q_change 73 = .ok (.iload_n 2, 1) := by decide +kernel
theorem d_Q_change_74 : decode b_Q_change 74 = .ok (.putfield 21, 3) := by decide +kernel
theorem d_Q_change_77 : decode b_Q_change 77 = .ok (.goto 21, 3) := by decide +kernel
theorem d_Q_change_80 : decode b_Q_change 80 = .ok (.aload_n 0, 1) := by decide +kernel
theorem d_Q_change_81 : decode b_Q_change 81 = .ok (.iload_n 2, 1) := by decide +kernel
theorem d_Q_change_82 : decode b_Q_change 82 = .ok (.putfield 24, 3) := by decide +kernel
theorem d_Q_change_85 : decode b_Q_change 85 = .ok (.goto 13, 3) := by decide +kernel
theorem d_Q_change_88 : decode b_Q_change 88 = .ok (.aload_n 0, 1) := by decide +kernel
theorem d_Q_change_89 : decode b_Q_change 89 = .ok (.iload_n 2, 1) := by decide +kernel
theorem d_Q_change_90 : decode b_Q_change 90 = .ok (.putfield 27, 3) := by decide +kernel
theorem d_Q_change_93 : decode b_Q_change 93 = .ok (.goto 5, 3) := by decide +kernel
theorem d_Q_change_96 : decode b_Q_change 96 = .ok (.iconst 0, 1) := by decide +kernel
theorem d_Q_change_97 : decode b_Q_change 97 = .ok (.ireturn, 1) := by decide +kernel
theorem d_Q_change_98 : decode b_Q_change 98 = .ok (.iconst 1, 1) := by decide +kernel
theorem d_Q_change_99 : decode b_Q_change 99 = .ok (.ireturn, 1) := by decide +kernel
theorem d_Q_mayBe_0 : decode b_Q_mayBe 0 = .ok (.iload_n 0, 1) := by decide +kernel
theorem d_Q_mayBe_1 : decode b_Q_mayBe 1 = .ok (.tableswitch 90 0 5 #[39, 48, 56, 64, 73, 81], 39) := by decide +kernel
theorem d_Q_mayBe_40 : decode b_Q_mayBe 40 = .ok (.iload_n 1, 1) := by decide +kernel
theorem d_Q_mayBe_41 : decode b_Q_mayBe 41 = .ok (.iconst 1, 1) := by decide +kernel
theorem d_Q_mayBe_42 : decode b_Q_mayBe 42 = .ok (.sipush 200, 3) := by decide +kernel
theorem d_Q_mayBe_45 : decode b_Q_mayBe 45 = .ok (.invokestatic 34, 3) := by decide +kernel
theorem d_Q_mayBe_48 : decode b_Q_mayBe 48 = .ok (.ireturn, 1) := by decide +kernel
theorem d_Q_mayBe_49 : decode b_Q_mayBe 49 = .ok (.iload_n 1, 1) := by decide +kernel
theorem d_Q_mayBe_50 : decode b_Q_mayBe 50 = .ok (.iconst 1, 1) := by decide +kernel
theorem d_Q_mayBe_51 : decode b_Q_mayBe 51 = .ok (.bipush 20, 2) := by decide +kernel
theorem d_Q_mayBe_53 : decode b_Q_mayBe 53 = .ok (.invokestatic 34, 3) := by decide +kernel
theorem d_Q_mayBe_56 : decode b_Q_mayBe 56 = .ok (.ireturn, 1) := by decide +kernel
theorem d_Q_mayBe_57 : decode b_Q_mayBe 57 = .ok (.iload_n 1, 1) := by decide +kernel
theorem d_Q_mayBe_58 : decode b_Q_mayBe 58 = .ok (.iconst 1, 1) := by decide +kernel
theorem d_Q_mayBe_59 : decode b_Q_mayBe 59 = .ok (.bipush 100, 2) := by decide +kernel
theorem d_Q_mayBe_61 : decode b_Q_mayBe 61 = .ok (.invokestatic 34, 3) := by decide +kernel
theorem d_Q_mayBe_64 : decode b_Q_mayBe 64 = .ok (.ireturn, 1) := by decide +kernel
theorem d_Q_mayBe_65 : decode b_Q_mayBe 65 = .ok (.iload_n 1, 1) := by decide +kernel
theorem d_Q_mayBe_66 : decode b_Q_mayBe 66 = .ok (.iconst 1, 1) := by decide +kernel
theorem d_Q_mayBe_67 : decode b_Q_mayBe 67 = .ok (.sipush 1000, 3) := by decide +kernel
theorem d_Q_mayBe_70 : decode b_Q_mayBe 70 = .ok (.invokestatic 34, 3) := by decide +kernel
theorem d_Q_mayBe_73 : decode b_Q_mayBe 73 = .ok (.ireturn, 1) := by decide +kernel
theorem d_Q_mayBe_74 : decode b_Q_mayBe 74 = .ok (.iload_n 1, 1) := by decide +kernel
theorem d_Q_mayBe_75 : decode b_Q_mayBe 75 = .ok (.iconst 0, 1) := by decide +kernel
theorem d_Q_mayBe_76 : decode b_Q_mayBe 76 = .ok (.bipush 100, 2) := by decide +kernel
theorem d_Q_mayBe_78 : decode b_Q_mayBe 78 = .ok (.invokestatic 34, 3) := by decide +kernel
theorem d_Q_mayBe_81 : decode b_Q_mayBe 81 = .ok (.ireturn, 1) := by decide +kernel
theorem d_Q_mayBe_82 : decode b_Q_mayBe 82 = .ok (.iload_n 1, 1) := by decide +kernel
theorem d_Q_mayBe_83 : decode b_Q_mayBe 83 = .ok (.iconst 0, 1) := by decide +kernel
theorem d_Q_mayBe_84 : decode b_Q_mayBe 84 = .ok (.sipush 1000, 3) := by decide +kernel
theorem d_Q_mayBe_87 : decode b_Q_mayBe 87 = .ok (.invokestatic 34, 3) := by decide +kernel
theorem d_Q_mayBe_90 : decode b_Q_mayBe 90 = .ok (.ireturn, 1) := by decide +kernel
theorem d_Q_mayBe_91 : decode b_Q_mayBe 91 = .ok (.iconst 0, 1) := by decide +kernel
theorem d_Q_mayBe_92 : decode b_Q_mayBe 92 = .ok (.ireturn, 1) := by decide +kernel
theorem d_X_first_0 : decode b_X_first 0 = .ok (.aload_n 0, 1) := by decide +kernel
theorem d_X_first_1 : decode b_X_first 1 = .ok (.iload_n 1, 1) := by decide +kernel
theorem d_X_first_2 : decode b_X_first 2 = .ok (.invokevirtual 37, 3) := by decide +kernel
theorem d_X_first_5 : decode b_X_first 5 = .ok (.astore_n 2, 1) := by decide +kernel
theorem d_X_first_6 : decode b_X_first 6 = .ok (.aload_n 2, 1) := by decide +kernel
theorem d_X_first_7 : decode b_X_first 7 = .ok (.ifnonnull 7, 3) := by decide +kernel
theorem d_X_first_10 : decode b_X_first 10 = .ok (.aconst_null, 1) := by decide +kernel
theorem d_X_first_11 : decode b_X_first 11 = .ok (.goto 8, 3) := by decide +kernel
theorem d_X_first_14 : decode b_X_first 14 = .ok (.aload_n 0, 1) := by decide +kernel
theorem d_X_first_15 : decode b_X_first 15 = .ok (.aload_n 2, 1) := by decide +kernel
theorem d_X_first_16 : decode b_X_first 16 = .ok (.invokevirtual 89, 3) := by decide +kernel
theorem d_X_first_19 : decode b_X_first 19 = .ok (.astore_n 3, 1) := by decide +kernel
theorem d_X_first_20 : decode b_X_first 20 = .ok (.aload_n 3, 1) := by decide +kernel
theorem d_X_first_21 : decode b_X_first 21 = .ok (.ifnonnull 7, 3) := by decide +kernel
theorem d_X_first_24 : decode b_X_first 24 = .ok (.iconst (-1), 1) := by decide +kernel
theorem d_X_first_25 : decode b_X_first 25 = .ok (.goto 7, 3) := by decide +kernel
theorem d_X_first_28 : decode b_X_first 28 = .ok (.aload_n 3, 1) := by decide +kernel
theorem d_X_first_29 : decode b_X_first 29 = .ok (.getfield 135, 3) := by decide +kernel
theorem d_X_first_32 : decode b_X_first 32 = .ok (.ireturn, 1) := by decide +kernel
theorem d_X_firstOf_0 : decode b_X_firstOf 0 = .ok (.aconst_null, 1) := by decide +kernel
theorem d_X_firstOf_1 : decode b_X_firstOf 1 = .ok (.astore_n 2, 1) := by decide +kernel
theorem d_X_firstOf_2 : decode b_X_firstOf 2 = .ok (.iconst 0, 1) := by decide +kernel
theorem d_X_firstOf_3 : decode b_X_firstOf 3 = .ok (.istore_n 3, 1) := by decide +kernel
theorem d_X_firstOf_4 : decode b_X_firstOf 4 = .ok (.iload_n 3, 1) := by decide +kernel
theorem d_X_firstOf_5 : decode b_X_firstOf 5 = .ok (.aload_n 0, 1) := by decide +kernel
theorem d_X_firstOf_6 : decode b_X_firstOf 6 = .ok (.getfield 24, 3) := by decide +kernel
theorem d_X_firstOf_9 : decode b_X_firstOf 9 = .ok (.invokevirtual 66, 3) := by decide +kernel
theorem d_X_firstOf_12 : decode b_X_firstOf 12 = .ok (.if_icmp .ge 63, 3) := by decide +kernel
theorem d_X_firstOf_15 : decode b_X_firstOf 15 = .ok (.aload_n 0, 1) := by decide +kernel
theorem d_X_firstOf_16 : decode b_X_firstOf 16 = .ok (.getfield 24, 3) := by decide +kernel
theorem d_X_firstOf_19 : decode b_X_firstOf 19 = .ok (.iload_n 3, 1) := by decide +kernel
theorem d_X_firstOf_20 : decode b_X_firstOf 20 = .ok (.invokevirtual 140, 3) := by decide +kernel
theorem d_X_firstOf_23 : decode b_X_firstOf 23 = .ok (.checkcast 74, 3) := by decide +kernel
theorem d_X_firstOf_26 : decode b_X_firstOf 26 = .ok (.astore 4, 2) := by decide +kernel
theorem d_X_firstOf_28 : decode b_X_firstOf 28 = .ok (.aload 4, 2) := by decide +kernel
theorem d_X_firstOf_30 : decode b_X_firstOf 30 = .ok (.getfield 105, 3) := by decide +kernel
theorem d_X_firstOf_33 : decode b_X_firstOf 33 = .ok (.aload_n 1, 1) := by decide +kernel
theorem d_X_firstOf_34 : decode b_X_firstOf 34 = .ok (.if_acmp .ne 35, 3) := by decide +kernel
theorem d_X_firstOf_37 : decode b_X_firstOf 37 = .ok (.aload 4, 2) := by decide +kernel
theorem d_X_firstOf_39 : decode b_X_firstOf 39 = .ok (.aload_n 0, 1) := by decide +kernel
theorem d_X_firstOf_40 : decode b_X_firstOf 40 = .ok (.getfield 28, 3) := by decide +kernel
theorem d_X_firstOf_43 : decode b_X_firstOf 43 = .ok (.invokevirtual 210, 3) := by decide +kernel
theorem d_X_firstOf_46 : decode b_X_firstOf 46 = .ok (.ifCond .eq 23, 3) := by decide +kernel
theorem d_X_firstOf_49 : decode b_X_firstOf 49 = .ok (.aload_n 2, 1) := by decide +kernel
theorem d_X_firstOf_50 : decode b_X_firstOf 50 = .ok (.ifnull 16, 3) := by decide +kernel
theorem d_X_firstOf_53 : decode b_X_firstOf 53 = .ok (.aload 4, 2) := by decide +kernel
theorem d_X_firstOf_55 : decode b_X_firstOf 55 = .ok (.aload_n 2, 1) := by decide +kernel
theorem d_X_firstOf_56 : decode b_X_firstOf 56 = .ok (.aload_n 0, 1) := by decide +kernel
theorem d_X_firstOf_57 : decode b_X_firstOf 57 = .ok (.getfield 28, 3) := by decide +kernel
theorem d_X_firstOf_60 : decode b_X_firstOf 60 = .ok (.invokevirtual 213, 3) := by decide +kernel
theorem d_X_firstOf_63 : decode b_X_firstOf 63 = .ok (.ifCond .eq 6, 3) := by decide +kernel
theorem d_X_firstOf_66 : decode b_X_firstOf 66 = .ok (.aload 4, 2) := by decide +kernel
theorem d_X_firstOf_68 : decode b_X_firstOf 68 = .ok (.astore_n 2, 1) := by decide +kernel
theorem d_X_firstOf_69 : decode b_X_firstOf 69 = .ok (.iinc 3 1, 3) := by decide +kernel
theorem d_X_firstOf_72 : decode b_X_firstOf 72 = .ok (.goto (-68), 3) := by decide +kernel
theorem d_X_firstOf_75 : decode b_X_firstOf 75 = .ok (.aload_n 2, 1) := by decide +kernel
theorem d_X_firstOf_76 : decode b_X_firstOf 76 = .ok (.areturn, 1) := by decide +kernel
theorem d_T_mayBeHad_0 : decode b_T_mayBeHad 0 = .ok (.aload_n 0, 1) := by decide +kernel
theorem d_T_mayBeHad_1 : decode b_T_mayBeHad 1 = .ok (.iload_n 1, 1) := by decide +kernel
theorem d_T_mayBeHad_2 : decode b_T_mayBeHad 2 = .ok (.invokevirtual 51, 3) := by decide +kernel
theorem d_T_mayBeHad_5 : decode b_T_mayBeHad 5 = .ok (.ifCond .eq 31, 3) := by decide +kernel
theorem d_T_mayBeHad_8 : decode b_T_mayBeHad 8 = .ok (.aload_n 0, 1) := by decide +kernel
theorem d_T_mayBeHad_9 : decode b_T_mayBeHad 9 = .ok (.getfield 40, 3) := by decide +kernel
theorem d_T_mayBeHad_12 : decode b_T_mayBeHad 12 = .ok (.ifnull 20, 3) := by decide +kernel
theorem d_T_mayBeHad_15 : decode b_T_mayBeHad 15 = .ok (.aload_n 0, 1) := by decide +kernel
theorem d_T_mayBeHad_16 : decode b_T_mayBeHad 16 = .ok (.getfield 40, 3) := by decide +kernel
theorem d_T_mayBeHad_19 : decode b_T_mayBeHad 19 = .ok (.getfield 55, 3) := by decide +kernel
theorem d_T_mayBeHad_22 : decode b_T_mayBeHad 22 = .ok (.aload_n 0, 1) := by decide +kernel
theorem d_T_mayBeHad_23 : decode b_T_mayBeHad 23 = .ok (.getfield 40, 3) := by decide +kernel
theorem d_T_mayBeHad_26 : decode b_T_mayBeHad 26 = .ok (.getfield 60, 3) := by decide +kernel
theorem d_T_mayBeHad_29 : decode b_T_mayBeHad 29 = .ok (.if_icmp .ge 7, 3) := by decide +kernel
theorem d_T_mayBeHad_32 : decode b_T_mayBeHad 32 = .ok (.iconst 1, 1) := by decide +kernel
theorem d_T_mayBeHad_33 : decode b_T_mayBeHad 33 = .ok (.goto 4, 3) := by decide +kernel
theorem d_T_mayBeHad_36 : decode b_T_mayBeHad 36 = .ok (.iconst 0, 1) := by decide +kernel
theorem d_T_mayBeHad_37 : decode b_T_mayBeHad 37 = .ok (.ireturn, 1) := by decide +kernel
theorem d_T_isDue_0 : decode b_T_isDue 0 = .ok (.aload_n 0, 1) := by decide +kernel
theorem d_T_isDue_1 : decode b_T_isDue 1 = .ok (.getfield 9, 3) := by decide +kernel
theorem d_T_isDue_4 : decode b_T_isDue 4 = .ok (.ifCond .ne 15, 3) := by decide +kernel
theorem d_T_isDue_7 : decode b_T_isDue 7 = .ok (.aload_n 0, 1) := by decide +kernel
theorem d_T_isDue_8 : decode b_T_isDue 8 = .ok (.getfield 48, 3) := by decide +kernel
theorem d_T_isDue_11 : decode b_T_isDue 11 = .ok (.iload_n 1, 1) := by decide +kernel
theorem d_T_isDue_12 : decode b_T_isDue 12 = .ok (.if_icmp .gt 7, 3) := by decide +kernel
theorem d_T_isDue_15 : decode b_T_isDue 15 = .ok (.iconst 1, 1) := by decide +kernel
theorem d_T_isDue_16 : decode b_T_isDue 16 = .ok (.goto 4, 3) := by decide +kernel
theorem d_T_isDue_19 : decode b_T_isDue 19 = .ok (.iconst 0, 1) := by decide +kernel
theorem d_T_isDue_20 : decode b_T_isDue 20 = .ok (.ireturn, 1) := by decide +kernel
theorem d_T_goesBefore_0 : decode b_T_goesBefore 0 = .ok (.aload_n 0, 1) := by decide +kernel
theorem d_T_goesBefore_1 : decode b_T_goesBefore 1 = .ok (.iload_n 2, 1) := by decide +kernel
theorem d_T_goesBefore_2 : decode b_T_goesBefore 2 = .ok (.invokevirtual 81, 3) := by decide +kernel
theorem d_T_goesBefore_5 : decode b_T_goesBefore 5 = .ok (.istore_n 3, 1) := by decide +kernel
theorem d_T_goesBefore_6 : decode b_T_goesBefore 6 = .ok (.aload_n 1, 1) := by decide +kernel
theorem d_T_goesBefore_7 : decode b_T_goesBefore 7 = .ok (.iload_n 2, 1) := by decide +kernel
theorem d_T_goesBefore_8 : decode b_T_goesBefore 8 = .ok (.invokevirtual 81, 3) := by decide +kernel
theorem d_T_goesBefore_11 : decode b_T_goesBefore 11 = .ok (.istore 4, 2) := by decide +kernel
theorem d_T_goesBefore_13 : decode b_T_goesBefore 13 = .ok (.iload_n 3, 1) := by decide +kernel
theorem d_T_goesBefore_14 : decode b_T_goesBefore 14 = .ok (.iload 4, 2) := by decide +kernel
theorem d_T_goesBefore_16 : decode b_T_goesBefore 16 = .ok (.if_icmp .eq 15, 3) := by decide +kernel
theorem d_T_goesBefore_19 : decode b_T_goesBefore 19 = .ok (.iload_n 3, 1) := by decide +kernel
theorem d_T_goesBefore_20 : decode b_T_goesBefore 20 = .ok (.iload 4, 2) := by decide +kernel
theorem d_T_goesBefore_22 : decode b_T_goesBefore 22 = .ok (.if_icmp .le 7, 3) := by decide +kernel
theorem d_T_goesBefore_25 : decode b_T_goesBefore 25 = .ok (.iconst 1, 1) := by decide +kernel
theorem d_T_goesBefore_26 : decode b_T_goesBefore 26 = .ok (.goto 4, 3) := by decide +kernel
theorem d_T_goesBefore_29 : decode b_T_goesBefore 29 = .ok (.iconst 0, 1) := by decide +kernel
theorem d_T_goesBefore_30 : decode b_T_goesBefore 30 = .ok (.ireturn, 1) := by decide +kernel
theorem d_T_goesBefore_31 : decode b_T_goesBefore 31 = .ok (.aload_n 0, 1) := by decide +kernel
theorem d_T_goesBefore_32 : decode b_T_goesBefore 32 = .ok (.getfield 48, 3) := by decide +kernel
theorem d_T_goesBefore_35 : decode b_T_goesBefore 35 = .ok (.aload_n 1, 1) := by decide +kernel
theorem d_T_goesBefore_36 : decode b_T_goesBefore 36 = .ok (.getfield 48, 3) := by decide +kernel
theorem d_T_goesBefore_39 : decode b_T_goesBefore 39 = .ok (.if_icmp .eq 22, 3) := by decide +kernel
theorem d_T_goesBefore_42 : decode b_T_goesBefore 42 = .ok (.aload_n 0, 1) := by decide +kernel
theorem d_T_goesBefore_43 : decode b_T_goesBefore 43 = .ok (.getfield 48, 3) := by decide +kernel
theorem d_T_goesBefore_46 : decode b_T_goesBefore 46 = .ok (.aload_n 1, 1) := by decide +kernel
theorem d_T_goesBefore_47 : decode b_T_goesBefore 47 = .ok (.getfield 48, 3) := by decide +kernel
theorem d_T_goesBefore_50 : decode b_T_goesBefore 50 = .ok (.if_icmp .ge 7, 3) := by decide +kernel
theorem d_T_goesBefore_53 : decode b_T_goesBefore 53 = .ok (.iconst 1, 1) := by decide +kernel
theorem d_T_goesBefore_54 : decode b_T_goesBefore 54 = .ok (.goto 23, 3) := by decide +kernel
theorem d_T_goesBefore_57 : decode b_T_goesBefore 57 = .ok (.iconst 0, 1) := by decide +kernel
theorem d_T_goesBefore_58 : decode b_T_goesBefore 58 = .ok (.goto 19, 3) := by decide +kernel
theorem d_T_goesBefore_61 : decode b_T_goesBefore 61 = .ok (.aload_n 0, 1) := by decide +kernel
theorem d_T_goesBefore_62 : decode b_T_goesBefore 62 = .ok (.getfield 30, 3) := by decide +kernel
theorem d_T_goesBefore_65 : decode b_T_goesBefore 65 = .ok (.aload_n 1, 1) := by decide +kernel
theorem d_T_goesBefore_66 : decode b_T_goesBefore 66 = .ok (.getfield 30, 3) := by decide +kernel
theorem d_T_goesBefore_69 : decode b_T_goesBefore 69 = .ok (.if_icmp .ge 7, 3) := by decide +kernel
theorem d_T_goesBefore_72 : decode b_T_goesBefore 72 = .ok (.iconst 1, 1) := by decide +kernel
theorem d_T_goesBefore_73 : decode b_T_goesBefore 73 = .ok (.goto 4, 3) := by decide +kernel
theorem d_T_goesBefore_76 : decode b_T_goesBefore 76 = .ok (.iconst 0, 1) := by decide +kernel
theorem d_T_goesBefore_77 : decode b_T_goesBefore 77 = .ok (.ireturn, 1) := by decide +kernel
theorem d_T_weight_0 : decode b_T_weight 0 = .ok (.aload_n 0, 1) := by decide +kernel
theorem d_T_weight_1 : decode b_T_weight 1 = .ok (.getfield 33, 3) := by decide +kernel
theorem d_T_weight_4 : decode b_T_weight 4 = .ok (.getfield 72, 3) := by decide +kernel
theorem d_T_weight_7 : decode b_T_weight 7 = .ok (.ifCond .le 20, 3) := by decide +kernel
theorem d_T_weight_10 : decode b_T_weight 10 = .ok (.iload_n 1, 1) := by decide +kernel
theorem d_T_weight_11 : decode b_T_weight 11 = .ok (.aload_n 0, 1) := by decide +kernel
theorem d_T_weight_12 : decode b_T_weight 12 = .ok (.getfield 48, 3) := by decide +kernel
theorem d_T_weight_15 : decode b_T_weight 15 = .ok (.isub, 1) := by decide +kernel
theorem d_T_weight_16 : decode b_T_weight 16 = .ok (.aload_n 0, 1) := by decide +kernel
theorem d_T_weight_17 : decode b_T_weight 17 = .ok (.getfield 33, 3) := by decide +kernel
theorem d_T_weight_20 : decode b_T_weight 20 = .ok (.getfield 72, 3) := by decide +kernel
theorem d_T_weight_23 : decode b_T_weight 23 = .ok (.idiv, 1) := by decide +kernel
theorem d_T_weight_24 : decode b_T_weight 24 = .ok (.goto 4, 3) := by decide +kernel
theorem d_T_weight_27 : decode b_T_weight 27 = .ok (.iconst 0, 1) := by decide +kernel
theorem d_T_weight_28 : decode b_T_weight 28 = .ok (.istore_n 2, 1) := by decide +kernel
theorem d_T_weight_29 : decode b_T_weight 29 = .ok (.aload_n 0, 1) := by decide +kernel
theorem d_T_weight_30 : decode b_T_weight 30 = .ok (.getfield 37, 3) := by decide +kernel
theorem d_T_weight_33 : decode b_T_weight 33 = .ok (.iload_n 2, 1) := by decide +kernel
theorem d_T_weight_34 : decode b_T_weight 34 = .ok (.iadd, 1) := by decide +kernel
theorem d_T_weight_35 : decode b_T_weight 35 = .ok (.bipush 9, 2) := by decide +kernel
theorem d_T_weight_37 : decode b_T_weight 37 = .ok (.invokestatic 75, 3) := by decide +kernel
theorem d_T_weight_40 : decode b_T_weight 40 = .ok (.ireturn, 1) := by decide +kernel
theorem d_X_next_0 : decode b_X_next 0 = .ok (.iconst (-1), 1) := by decide +kernel
theorem d_X_next_1 : decode b_X_next 1 = .ok (.istore_n 1, 1) := by decide +kernel
theorem d_X_next_2 : decode b_X_next 2 = .ok (.iconst 0, 1) := by decide +kernel
theorem d_X_next_3 : decode b_X_next 3 = .ok (.istore_n 2, 1) := by decide +kernel
theorem d_X_next_4 : decode b_X_next 4 = .ok (.iload_n 2, 1) := by decide +kernel
theorem d_X_next_5 : decode b_X_next 5 = .ok (.aload_n 0, 1) := by decide +kernel
theorem d_X_next_6 : decode b_X_next 6 = .ok (.getfield 24, 3) := by decide +kernel
theorem d_X_next_9 : decode b_X_next 9 = .ok (.invokevirtual 66, 3) := by decide +kernel
theorem d_X_next_12 : decode b_X_next 12 = .ok (.if_icmp .ge 44, 3) := by decide +kernel
theorem d_X_next_15 : decode b_X_next 15 = .ok (.aload_n 0, 1) := by decide +kernel
theorem d_X_next_16 : decode b_X_next 16 = .ok (.getfield 24, 3) := by decide +kernel
theorem d_X_next_19 : decode b_X_next 19 = .ok (.iload_n 2, 1) := by decide +kernel
theorem d_X_next_20 : decode b_X_next 20 = .ok (.invokevirtual 140, 3) := by decide +kernel
theorem d_X_next_23 : decode b_X_next 23 = .ok (.checkcast 74, 3) := by decide +kernel
theorem d_X_next_26 : decode b_X_next 26 = .ok (.invokevirtual 184, 3) := by decide +kernel
theorem d_X_next_29 : decode b_X_next 29 = .ok (.istore_n 3, 1) := by decide +kernel
theorem d_X_next_30 : decode b_X_next 30 = .ok (.iload_n 3, 1) := by decide +kernel
theorem d_X_next_31 : decode b_X_next 31 = .ok (.aload_n 0, 1) := by decide +kernel
theorem d_X_next_32 : decode b_X_next 32 = .ok (.getfield 28, 3) := by decide +kernel
theorem d_X_next_35 : decode b_X_next 35 = .ok (.if_icmp .le 15, 3) := by decide +kernel
theorem d_X_next_38 : decode b_X_next 38 = .ok (.iload_n 1, 1) := by decide +kernel
theorem d_X_next_39 : decode b_X_next 39 = .ok (.iconst (-1), 1) := by decide +kernel
theorem d_X_next_40 : decode b_X_next 40 = .ok (.if_icmp .eq 8, 3) := by decide +kernel
theorem d_X_next_43 : decode b_X_next 43 = .ok (.iload_n 3, 1) := by decide +kernel
theorem d_X_next_44 : decode b_X_next 44 = .ok (.iload_n 1, 1) := by decide +kernel
theorem d_X_next_45 : decode b_X_next 45 = .ok (.if_icmp .ge 5, 3) := by decide +kernel
theorem d_X_next_48 : decode b_X_next 48 = .ok (.iload_n 3, 1) := by decide +kernel
theorem d_X_next_49 : decode b_X_next 49 = .ok (.istore_n 1, 1) := by decide +kernel
theorem d_X_next_50 : decode b_X_next 50 = .ok (.iinc 2 1, 3) := by decide +kernel
theorem d_X_next_53 : decode b_X_next 53 = .ok (.goto (-49), 3) := by decide +kernel
theorem d_X_next_56 : decode b_X_next 56 = .ok (.iload_n 1, 1) := by decide +kernel
theorem d_X_next_57 : decode b_X_next 57 = .ok (.ireturn, 1) := by decide +kernel
theorem d_T_comesAt_0 : decode b_T_comesAt 0 = .ok (.aload_n 0, 1) := by decide +kernel
theorem d_T_comesAt_1 : decode b_T_comesAt 1 = .ok (.getfield 9, 3) := by decide +kernel
theorem d_T_comesAt_4 : decode b_T_comesAt 4 = .ok (.ifCond .ne 8, 3) := by decide +kernel
theorem d_T_comesAt_7 : decode b_T_comesAt 7 = .ok (.aload_n 0, 1) := by decide +kernel
theorem d_T_comesAt_8 : decode b_T_comesAt 8 = .ok (.getfield 48, 3) := by decide +kernel
theorem d_T_comesAt_11 : decode b_T_comesAt 11 = .ok (.ireturn, 1) := by decide +kernel
theorem d_T_comesAt_12 : decode b_T_comesAt 12 = .ok (.aload_n 0, 1) := by decide +kernel
theorem d_T_comesAt_13 : decode b_T_comesAt 13 = .ok (.getfield 9, 3) := by decide +kernel
theorem d_T_comesAt_16 : decode b_T_comesAt 16 = .ok (.iconst 1, 1) := by decide +kernel
theorem d_T_comesAt_17 : decode b_T_comesAt 17 = .ok (.if_icmp .ne 10, 3) := by decide +kernel
theorem d_T_comesAt_20 : decode b_T_comesAt 20 = .ok (.aload_n 0, 1) := by decide +kernel
theorem d_T_comesAt_21 : decode b_T_comesAt 21 = .ok (.getfield 18, 3) := by decide +kernel
theorem d_T_comesAt_24 : decode b_T_comesAt 24 = .ok (.goto 4, 3) := by decide +kernel
theorem d_T_comesAt_27 : decode b_T_comesAt 27 = .ok (.iconst (-1), 1) := by decide +kernel
theorem d_T_comesAt_28 : decode b_T_comesAt 28 = .ok (.ireturn, 1) := by decide +kernel
theorem d_X_count_0 : decode b_X_count 0 = .ok (.iload_n 1, 1) := by decide +kernel
theorem d_X_count_1 : decode b_X_count 1 = .ok (.tableswitch 65 0 4 #[35, 40, 48, 53, 59], 35) := by decide +kernel
theorem d_X_count_36 : decode b_X_count 36 = .ok (.aload_n 0, 1) := by decide +kernel
theorem d_X_count_37 : decode b_X_count 37 = .ok (.getfield 28, 3) := by decide +kernel
theorem d_X_count_40 : decode b_X_count 40 = .ok (.ireturn, 1) := by decide +kernel
theorem d_X_count_41 : decode b_X_count 41 = .ok (.aload_n 0, 1) := by decide +kernel
theorem d_X_count_42 : decode b_X_count 42 = .ok (.getfield 24, 3) := by decide +kernel
theorem d_X_count_45 : decode b_X_count 45 = .ok (.invokevirtual 66, 3) := by decide +kernel
theorem d_X_count_48 : decode b_X_count 48 = .ok (.ireturn, 1) := by decide +kernel
theorem d_X_count_49 : decode b_X_count 49 = .ok (.aload_n 0, 1) := by decide +kernel
theorem d_X_count_50 : decode b_X_count 50 = .ok (.invokevirtual 62, 3) := by decide +kernel
theorem d_X_count_53 : decode b_X_count 53 = .ok (.ireturn, 1) := by decide +kernel
theorem d_X_count_54 : decode b_X_count 54 = .ok (.aload_n 0, 1) := by decide +kernel
theorem d_X_count_55 : decode b_X_count 55 = .ok (.iconst 1, 1) := by decide +kernel
theorem d_X_count_56 : decode b_X_count 56 = .ok (.invokevirtual 187, 3) := by decide +kernel
theorem d_X_count_59 : decode b_X_count 59 = .ok (.ireturn, 1) := by decide +kernel
theorem d_X_count_60 : decode b_X_count 60 = .ok (.aload_n 0, 1) := by decide +kernel
theorem d_X_count_61 : decode b_X_count 61 = .ok (.iconst 3, 1) := by decide +kernel
theorem d_X_count_62 : decode b_X_count 62 = .ok (.invokevirtual 187, 3) := by decide +kernel
theorem d_X_count_65 : decode b_X_count 65 = .ok (.ireturn, 1) := by decide +kernel
theorem d_X_count_66 : decode b_X_count 66 = .ok (.aload_n 0, 1) := by decide +kernel
theorem d_X_count_67 : decode b_X_count 67 = .ok (.iload_n 1, 1) := by decide +kernel
theorem d_X_count_68 : decode b_X_count 68 = .ok (.invokevirtual 190, 3) := by decide +kernel
theorem d_X_count_71 : decode b_X_count 71 = .ok (.ireturn, 1) := by decide +kernel
theorem d_X_countOfOne_0 : decode b_X_countOfOne 0 = .ok (.iload_n 1, 1) := by decide +kernel
theorem d_X_countOfOne_1 : decode b_X_countOfOne 1 = .ok (.iconst 5, 1) := by decide +kernel
theorem d_X_countOfOne_2 : decode b_X_countOfOne 2 = .ok (.isub, 1) := by decide +kernel
theorem d_X_countOfOne_3 : decode b_X_countOfOne 3 = .ok (.invokestatic 83, 3) := by decide +kernel
theorem d_X_countOfOne_6 : decode b_X_countOfOne 6 = .ok (.ifCond .eq 11, 3) := by decide +kernel
theorem d_X_countOfOne_9 : decode b_X_countOfOne 9 = .ok (.aload_n 0, 1) := by decide +kernel
theorem d_X_countOfOne_10 : decode b_X_countOfOne 10 = .ok (.iload_n 1, 1) := by decide +kernel
theorem d_X_countOfOne_11 : decode b_X_countOfOne 11 = .ok (.iconst 5, 1) := by decide +kernel
theorem d_X_countOfOne_12 : decode b_X_countOfOne 12 = .ok (.isub, 1) := by decide +kernel
theorem d_X_countOfOne_13 : decode b_X_countOfOne 13 = .ok (.invokevirtual 93, 3) := by decide +kernel
theorem d_X_countOfOne_16 : decode b_X_countOfOne 16 = .ok (.ireturn, 1) := by decide +kernel
theorem d_X_countOfOne_17 : decode b_X_countOfOne 17 = .ok (.aload_n 0, 1) := by decide +kernel
theorem d_X_countOfOne_18 : decode b_X_countOfOne 18 = .ok (.iload_n 1, 1) := by decide +kernel
theorem d_X_countOfOne_19 : decode b_X_countOfOne 19 = .ok (.bipush 13, 2) := by decide +kernel
theorem d_X_countOfOne_21 : decode b_X_countOfOne 21 = .ok (.isub, 1) := by decide +kernel
theorem d_X_countOfOne_22 : decode b_X_countOfOne 22 = .ok (.invokevirtual 52, 3) := by decide +kernel
theorem d_X_countOfOne_25 : decode b_X_countOfOne 25 = .ok (.astore_n 2, 1) := by decide +kernel
theorem d_X_countOfOne_26 : decode b_X_countOfOne 26 = .ok (.aload_n 2, 1) := by decide +kernel
theorem d_X_countOfOne_27 : decode b_X_countOfOne 27 = .ok (.ifnull 8, 3) := by decide +kernel
theorem d_X_countOfOne_30 : decode b_X_countOfOne 30 = .ok (.aload_n 2, 1) := by decide +kernel
theorem d_X_countOfOne_31 : decode b_X_countOfOne 31 = .ok (.getfield 193, 3) := by decide +kernel
theorem d_X_countOfOne_34 : decode b_X_countOfOne 34 = .ok (.ireturn, 1) := by decide +kernel
theorem d_X_countOfOne_35 : decode b_X_countOfOne 35 = .ok (.aload_n 0, 1) := by decide +kernel
theorem d_X_countOfOne_36 : decode b_X_countOfOne 36 = .ok (.iload_n 1, 1) := by decide +kernel
theorem d_X_countOfOne_37 : decode b_X_countOfOne 37 = .ok (.bipush 21, 2) := by decide +kernel
theorem d_X_countOfOne_39 : decode b_X_countOfOne 39 = .ok (.isub, 1) := by decide +kernel
theorem d_X_countOfOne_40 : decode b_X_countOfOne 40 = .ok (.invokevirtual 37, 3) := by decide +kernel
theorem d_X_countOfOne_43 : decode b_X_countOfOne 43 = .ok (.astore_n 3, 1) := by decide +kernel
theorem d_X_countOfOne_44 : decode b_X_countOfOne 44 = .ok (.aload_n 3, 1) := by decide +kernel
theorem d_X_countOfOne_45 : decode b_X_countOfOne 45 = .ok (.ifnonnull 7, 3) := by decide +kernel
theorem d_X_countOfOne_48 : decode b_X_countOfOne 48 = .ok (.iconst (-1), 1) := by decide +kernel
theorem d_X_countOfOne_49 : decode b_X_countOfOne 49 = .ok (.goto 8, 3) := by decide +kernel
theorem d_X_countOfOne_52 : decode b_X_countOfOne 52 = .ok (.aload_n 0, 1) := by decide +kernel
theorem d_X_countOfOne_53 : decode b_X_countOfOne 53 = .ok (.aload_n 3, 1) := by decide +kernel
theorem d_X_countOfOne_54 : decode b_X_countOfOne 54 = .ok (.invokevirtual 196, 3) := by decide +kernel
theorem d_X_countOfOne_57 : decode b_X_countOfOne 57 = .ok (.ireturn, 1) := by decide +kernel
theorem d_X_isWorker_0 : decode b_X_isWorker 0 = .ok (.iload_n 0, 1) := by decide +kernel
theorem d_X_isWorker_1 : decode b_X_isWorker 1 = .ok (.iconst 0, 1) := by decide +kernel
theorem d_X_isWorker_2 : decode b_X_isWorker 2 = .ok (.bipush 7, 2) := by decide +kernel
theorem d_X_isWorker_4 : decode b_X_isWorker 4 = .ok (.invokestatic 41, 3) := by decide +kernel
theorem d_X_isWorker_7 : decode b_X_isWorker 7 = .ok (.ireturn, 1) := by decide +kernel
theorem d_X_lentTo_0 : decode b_X_lentTo 0 = .ok (.iconst 0, 1) := by decide +kernel
theorem d_X_lentTo_1 : decode b_X_lentTo 1 = .ok (.istore_n 2, 1) := by decide +kernel
theorem d_X_lentTo_2 : decode b_X_lentTo 2 = .ok (.iconst 0, 1) := by decide +kernel
theorem d_X_lentTo_3 : decode b_X_lentTo 3 = .ok (.istore_n 3, 1) := by decide +kernel
theorem d_X_lentTo_4 : decode b_X_lentTo 4 = .ok (.iload_n 3, 1) := by decide +kernel
theorem d_X_lentTo_5 : decode b_X_lentTo 5 = .ok (.aload_n 0, 1) := by decide +kernel
theorem d_X_lentTo_6 : decode b_X_lentTo 6 = .ok (.getfield 24, 3) := by decide +kernel
theorem d_X_lentTo_9 : decode b_X_lentTo 9 = .ok (.invokevirtual 66, 3) := by decide +kernel
theorem d_X_lentTo_12 : decode b_X_lentTo 12 = .ok (.if_icmp .ge 43, 3) := by decide +kernel
theorem d_X_lentTo_15 : decode b_X_lentTo 15 = .ok (.aload_n 0, 1) := by decide +kernel
theorem d_X_lentTo_16 : decode b_X_lentTo 16 = .ok (.getfield 24, 3) := by decide +kernel
theorem d_X_lentTo_19 : decode b_X_lentTo 19 = .ok (.iload_n 3, 1) := by decide +kernel
theorem d_X_lentTo_20 : decode b_X_lentTo 20 = .ok (.invokevirtual 140, 3) := by decide +kernel
theorem d_X_lentTo_23 : decode b_X_lentTo 23 = .ok (.checkcast 74, 3) := by decide +kernel
theorem d_X_lentTo_26 : decode b_X_lentTo 26 = .ok (.astore 4, 2) := by decide +kernel
theorem d_X_lentTo_28 : decode b_X_lentTo 28 = .ok (.aload 4, 2) := by decide +kernel
theorem d_X_lentTo_30 : decode b_X_lentTo 30 = .ok (.getfield 144, 3) := by decide +kernel
theorem d_X_lentTo_33 : decode b_X_lentTo 33 = .ok (.iconst 1, 1) := by decide +kernel
theorem d_X_lentTo_34 : decode b_X_lentTo 34 = .ok (.if_icmp .ne 15, 3) := by decide +kernel
theorem d_X_lentTo_37 : decode b_X_lentTo 37 = .ok (.aload 4, 2) := by decide +kernel
theorem d_X_lentTo_39 : decode b_X_lentTo 39 = .ok (.getfield 170, 3) := by decide +kernel
theorem d_X_lentTo_42 : decode b_X_lentTo 42 = .ok (.iload_n 1, 1) := by decide +kernel
theorem d_X_lentTo_43 : decode b_X_lentTo 43 = .ok (.if_icmp .ne 6, 3) := by decide +kernel
theorem d_X_lentTo_46 : decode b_X_lentTo 46 = .ok (.iinc 2 1, 3) := by decide +kernel
theorem d_X_lentTo_49 : decode b_X_lentTo 49 = .ok (.iinc 3 1, 3) := by decide +kernel
theorem d_X_lentTo_52 : decode b_X_lentTo 52 = .ok (.goto (-48), 3) := by decide +kernel
theorem d_X_lentTo_55 : decode b_X_lentTo 55 = .ok (.iload_n 2, 1) := by decide +kernel
theorem d_X_lentTo_56 : decode b_X_lentTo 56 = .ok (.ireturn, 1) := by decide +kernel
theorem d_X_waitingIn_0 : decode b_X_waitingIn 0 = .ok (.iconst 0, 1) := by decide +kernel
theorem d_X_waitingIn_1 : decode b_X_waitingIn 1 = .ok (.istore_n 2, 1) := by decide +kernel
theorem d_X_waitingIn_2 : decode b_X_waitingIn 2 = .ok (.iconst 0, 1) := by decide +kernel
theorem d_X_waitingIn_3 : decode b_X_waitingIn 3 = .ok (.istore_n 3, 1) := by decide +kernel
theorem d_X_waitingIn_4 : decode b_X_waitingIn 4 = .ok (.iload_n 3, 1) := by decide +kernel
theorem d_X_waitingIn_5 : decode b_X_waitingIn 5 = .ok (.aload_n 0, 1) := by decide +kernel
theorem d_X_waitingIn_6 : decode b_X_waitingIn 6 = .ok (.getfield 24, 3) := by decide +kernel
theorem d_X_waitingIn_9 : decode b_X_waitingIn 9 = .ok (.invokevirtual 66, 3) := by decide +kernel
theorem d_X_waitingIn_12 : decode b_X_waitingIn 12 = .ok (.if_icmp .ge 42, 3) := by decide +kernel
theorem d_X_waitingIn_15 : decode b_X_waitingIn 15 = .ok (.aload_n 0, 1) := by decide +kernel
theorem d_X_waitingIn_16 : decode b_X_waitingIn 16 = .ok (.getfield 24, 3) := by decide +kernel
theorem d_X_waitingIn_19 : decode b_X_waitingIn 19 = .ok (.iload_n 3, 1) := by decide +kernel
theorem d_X_waitingIn_20 : decode b_X_waitingIn 20 = .ok (.invokevirtual 140, 3) := by decide +kernel
theorem d_X_waitingIn_23 : decode b_X_waitingIn 23 = .ok (.checkcast 74, 3) := by decide +kernel
theorem d_X_waitingIn_26 : decode b_X_waitingIn 26 = .ok (.astore 4, 2) := by decide +kernel
theorem d_X_waitingIn_28 : decode b_X_waitingIn 28 = .ok (.aload 4, 2) := by decide +kernel
theorem d_X_waitingIn_30 : decode b_X_waitingIn 30 = .ok (.getfield 144, 3) := by decide +kernel
theorem d_X_waitingIn_33 : decode b_X_waitingIn 33 = .ok (.ifCond .ne 15, 3) := by decide +kernel
theorem d_X_waitingIn_36 : decode b_X_waitingIn 36 = .ok (.aload 4, 2) := by decide +kernel
theorem d_X_waitingIn_38 : decode b_X_waitingIn 38 = .ok (.getfield 105, 3) := by decide +kernel
theorem d_X_waitingIn_41 : decode b_X_waitingIn 41 = .ok (.aload_n 1, 1) := by decide +kernel
theorem d_X_waitingIn_42 : decode b_X_waitingIn 42 = .ok (.if_acmp .ne 6, 3) := by decide +kernel
theorem d_X_waitingIn_45 : decode b_X_waitingIn 45 = .ok (.iinc 2 1, 3) := by decide +kernel
theorem d_X_waitingIn_48 : decode b_X_waitingIn 48 = .ok (.iinc 3 1, 3) := by decide +kernel
theorem d_X_waitingIn_51 : decode b_X_waitingIn 51 = .ok (.goto (-47), 3) := by decide +kernel
theorem d_X_waitingIn_54 : decode b_X_waitingIn 54 = .ok (.iload_n 2, 1) := by decide +kernel
theorem d_X_waitingIn_55 : decode b_X_waitingIn 55 = .ok (.ireturn, 1) := by decide +kernel
theorem d_L_add_0 : decode b_L_add 0 = .ok (.aload 7, 2) := by decide +kernel
theorem d_L_add_2 : decode b_L_add 2 = .ok (.iconst 0, 1) := by decide +kernel
theorem d_L_add_3 : decode b_L_add 3 = .ok (.aload_n 0, 1) := by decide +kernel
theorem d_L_add_4 : decode b_L_add 4 = .ok (.iload_n 1, 1) := by decide +kernel
theorem d_L_add_5 : decode b_L_add 5 = .ok (.iload_n 2, 1) := by decide +kernel
theorem d_L_add_6 : decode b_L_add 6 = .ok (.iload_n 3, 1) := by decide +kernel
theorem d_L_add_7 : decode b_L_add 7 = .ok (.lload 4, 2) := by decide +kernel
theorem d_L_add_9 : decode b_L_add 9 = .ok (.iload 6, 2) := by decide +kernel
theorem d_L_add_11 : decode b_L_add 11 = .ok (.invokevirtual 7, 3) := by decide +kernel
theorem d_L_add_14 : decode b_L_add 14 = .ok (.i2l, 1) := by decide +kernel
theorem d_L_add_15 : decode b_L_add 15 = .ok (.lastore, 1) := by decide +kernel
theorem d_L_add_16 : decode b_L_add 16 = .ok (.goto 11, 3) := by decide +kernel
theorem d_L_add_19 : decode b_L_add 19 = .ok (.astore 8, 2) := by decide +kernel
theorem d_L_add_21 : decode b_L_add 21 = .ok (.iconst 1, 1) := by decide +kernel
theorem d_L_add_22 : decode b_L_add 22 = .ok (.ireturn, 1) := by decide +kernel
theorem d_L_add_23 : decode b_L_add 23 = .ok (.astore 8, 2) := by decide +kernel
theorem d_L_add_25 : decode b_L_add 25 = .ok (.iconst 2, 1) := by decide +kernel
theorem d_L_add_26 : decode b_L_add 26 = .ok (.ireturn, 1) := by decide +kernel
theorem d_L_add_27 : decode b_L_add 27 = .ok (.iconst 0, 1) := by decide +kernel
