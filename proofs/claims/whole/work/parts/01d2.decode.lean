theorem d_L_init_0 : decode c_L_init 0 = .ok (.aload_n 0, 1) := by decide +kernel
theorem d_L_init_1 : decode c_L_init 1 = .ok (.invokespecial 3, 3) := by decide +kernel
theorem d_L_init_4 : decode c_L_init 4 = .ok (.aload_n 0, 1) := by decide +kernel
theorem d_L_init_5 : decode c_L_init 5 = .ok (.aload_n 1, 1) := by decide +kernel
theorem d_L_init_6 : decode c_L_init 6 = .ok (.putfield 9, 3) := by decide +kernel
theorem d_L_init_9 : decode c_L_init 9 = .ok (.aload_n 0, 1) := by decide +kernel
theorem d_L_init_10 : decode c_L_init 10 = .ok (.aload_n 2, 1) := by decide +kernel
theorem d_L_init_11 : decode c_L_init 11 = .ok (.putfield 15, 3) := by decide +kernel
theorem d_L_init_14 : decode c_L_init 14 = .ok (.return_, 1) := by decide +kernel
theorem d_C_init_0 : decode c_C_init 0 = .ok (.aload_n 0, 1) := by decide +kernel
theorem d_C_init_1 : decode c_C_init 1 = .ok (.invokespecial 1, 3) := by decide +kernel
theorem d_C_init_4 : decode c_C_init 4 = .ok (.aload_n 0, 1) := by decide +kernel
theorem d_C_init_5 : decode c_C_init 5 = .ok (.iload_n 1, 1) := by decide +kernel
theorem d_C_init_6 : decode c_C_init 6 = .ok (.putfield 7, 3) := by decide +kernel
theorem d_C_init_9 : decode c_C_init 9 = .ok (.aload_n 0, 1) := by decide +kernel
theorem d_C_init_10 : decode c_C_init 10 = .ok (.iload_n 2, 1) := by decide +kernel
theorem d_C_init_11 : decode c_C_init 11 = .ok (.putfield 13, 3) := by decide +kernel
theorem d_C_init_14 : decode c_C_init 14 = .ok (.aload_n 0, 1) := by decide +kernel
theorem d_C_init_15 : decode c_C_init 15 = .ok (.aload_n 3, 1) := by decide +kernel
theorem d_C_init_16 : decode c_C_init 16 = .ok (.putfield 16, 3) := by decide +kernel
theorem d_C_init_19 : decode c_C_init 19 = .ok (.return_, 1) := by decide +kernel
theorem d_D_init_0 : decode c_D_init 0 = .ok (.aload_n 0, 1) := by decide +kernel
theorem d_D_init_1 : decode c_D_init 1 = .ok (.invokespecial 3, 3) := by decide +kernel
theorem d_D_init_4 : decode c_D_init 4 = .ok (.aload_n 0, 1) := by decide +kernel
theorem d_D_init_5 : decode c_D_init 5 = .ok (.iload_n 1, 1) := by decide +kernel
theorem d_D_init_6 : decode c_D_init 6 = .ok (.iconst 4, 1) := by decide +kernel
theorem d_D_init_7 : decode c_D_init 7 = .ok (.imul, 1) := by decide +kernel
theorem d_D_init_8 : decode c_D_init 8 = .ok (.newarray .int, 2) := by decide +kernel
theorem d_D_init_10 : decode c_D_init 10 = .ok (.putfield 9, 3) := by decide +kernel
theorem d_D_init_13 : decode c_D_init 13 = .ok (.aload_n 0, 1) := by decide +kernel
theorem d_D_init_14 : decode c_D_init 14 = .ok (.iconst 3, 1) := by decide +kernel
theorem d_D_init_15 : decode c_D_init 15 = .ok (.anewarray 15, 3) := by decide +kernel
theorem d_D_init_18 : decode c_D_init 18 = .ok (.putfield 17, 3) := by decide +kernel
theorem d_D_init_21 : decode c_D_init 21 = .ok (.aload_n 0, 1) := by decide +kernel
theorem d_D_init_22 : decode c_D_init 22 = .ok (.iconst 3, 1) := by decide +kernel
theorem d_D_init_23 : decode c_D_init 23 = .ok (.newarray .boolean, 2) := by decide +kernel
theorem d_D_init_25 : decode c_D_init 25 = .ok (.putfield 21, 3) := by decide +kernel
theorem d_D_init_28 : decode c_D_init 28 = .ok (.aload_n 0, 1) := by decide +kernel
theorem d_D_init_29 : decode c_D_init 29 = .ok (.getfield 17, 3) := by decide +kernel
theorem d_D_init_32 : decode c_D_init 32 = .ok (.iconst 0, 1) := by decide +kernel
theorem d_D_init_33 : decode c_D_init 33 = .ok (.aload_n 2, 1) := by decide +kernel
theorem d_D_init_34 : decode c_D_init 34 = .ok (.aastore, 1) := by decide +kernel
theorem d_D_init_35 : decode c_D_init 35 = .ok (.aload_n 0, 1) := by decide +kernel
theorem d_D_init_36 : decode c_D_init 36 = .ok (.iconst 1, 1) := by decide +kernel
theorem d_D_init_37 : decode c_D_init 37 = .ok (.putfield 25, 3) := by decide +kernel
theorem d_D_init_40 : decode c_D_init 40 = .ok (.aload_n 0, 1) := by decide +kernel
theorem d_D_init_41 : decode c_D_init 41 = .ok (.iconst 1, 1) := by decide +kernel
theorem d_D_init_42 : decode c_D_init 42 = .ok (.putfield 29, 3) := by decide +kernel
theorem d_D_init_45 : decode c_D_init 45 = .ok (.return_, 1) := by decide +kernel
theorem d_L_leastAbsent_0 : decode c_L_leastAbsent 0 = .ok (.iconst 0, 1) := by decide +kernel
theorem d_L_leastAbsent_1 : decode c_L_leastAbsent 1 = .ok (.istore_n 1, 1) := by decide +kernel
theorem d_L_leastAbsent_2 : decode c_L_leastAbsent 2 = .ok (.iload_n 1, 1) := by decide +kernel
theorem d_L_leastAbsent_3 : decode c_L_leastAbsent 3 = .ok (.iconst 4, 1) := by decide +kernel
theorem d_L_leastAbsent_4 : decode c_L_leastAbsent 4 = .ok (.if_icmp .ge 20, 3) := by decide +kernel
theorem d_L_leastAbsent_7 : decode c_L_leastAbsent 7 = .ok (.aload_n 0, 1) := by decide +kernel
theorem d_L_leastAbsent_8 : decode c_L_leastAbsent 8 = .ok (.getfield 9, 3) := by decide +kernel
theorem d_L_leastAbsent_11 : decode c_L_leastAbsent 11 = .ok (.iload_n 1, 1) := by decide +kernel
theorem d_L_leastAbsent_12 : decode c_L_leastAbsent 12 = .ok (.aaload, 1) := by decide +kernel
theorem d_L_leastAbsent_13 : decode c_L_leastAbsent 13 = .ok (.ifnonnull 5, 3) := by decide +kernel
theorem d_L_leastAbsent_16 : decode c_L_leastAbsent 16 = .ok (.iload_n 1, 1) := by decide +kernel
theorem d_L_leastAbsent_17 : decode c_L_leastAbsent 17 = .ok (.ireturn, 1) := by decide +kernel
theorem d_L_leastAbsent_18 : decode c_L_leastAbsent 18 = .ok (.iinc 1 1, 3) := by decide +kernel
theorem d_L_leastAbsent_21 : decode c_L_leastAbsent 21 = .ok (.goto (-19), 3) := by decide +kernel
theorem d_L_leastAbsent_24 : decode c_L_leastAbsent 24 = .ok (.iconst (-1), 1) := by decide +kernel
theorem d_L_leastAbsent_25 : decode c_L_leastAbsent 25 = .ok (.ireturn, 1) := by decide +kernel
theorem d_U_init_0 : decode c_U_init 0 = .ok (.aload_n 0, 1) := by decide +kernel
theorem d_U_init_1 : decode c_U_init 1 = .ok (.invokespecial 3, 3) := by decide +kernel
theorem d_U_init_4 : decode c_U_init 4 = .ok (.aload_n 0, 1) := by decide +kernel
theorem d_U_init_5 : decode c_U_init 5 = .ok (.iload_n 1, 1) := by decide +kernel
theorem d_U_init_6 : decode c_U_init 6 = .ok (.putfield 9, 3) := by decide +kernel
theorem d_U_init_9 : decode c_U_init 9 = .ok (.aload_n 0, 1) := by decide +kernel
theorem d_U_init_10 : decode c_U_init 10 = .ok (.iload_n 2, 1) := by decide +kernel
theorem d_U_init_11 : decode c_U_init 11 = .ok (.putfield 15, 3) := by decide +kernel
theorem d_U_init_14 : decode c_U_init 14 = .ok (.aload_n 0, 1) := by decide +kernel
theorem d_U_init_15 : decode c_U_init 15 = .ok (.iload_n 3, 1) := by decide +kernel
theorem d_U_init_16 : decode c_U_init 16 = .ok (.putfield 18, 3) := by decide +kernel
theorem d_U_init_19 : decode c_U_init 19 = .ok (.aload_n 0, 1) := by decide +kernel
theorem d_U_init_20 : decode c_U_init 20 = .ok (.aload 4, 2) := by decide +kernel
theorem d_U_init_22 : decode c_U_init 22 = .ok (.putfield 21, 3) := by decide +kernel
theorem d_U_init_25 : decode c_U_init 25 = .ok (.return_, 1) := by decide +kernel
theorem d_L_volumeAt_0 : decode c_L_volumeAt 0 = .ok (.iload_n 1, 1) := by decide +kernel
theorem d_L_volumeAt_1 : decode c_L_volumeAt 1 = .ok (.ifCond .lt 17, 3) := by decide +kernel
theorem d_L_volumeAt_4 : decode c_L_volumeAt 4 = .ok (.iload_n 1, 1) := by decide +kernel
theorem d_L_volumeAt_5 : decode c_L_volumeAt 5 = .ok (.iconst 4, 1) := by decide +kernel
theorem d_L_volumeAt_6 : decode c_L_volumeAt 6 = .ok (.if_icmp .ge 12, 3) := by decide +kernel
theorem d_L_volumeAt_9 : decode c_L_volumeAt 9 = .ok (.aload_n 0, 1) := by decide +kernel
theorem d_L_volumeAt_10 : decode c_L_volumeAt 10 = .ok (.getfield 9, 3) := by decide +kernel
theorem d_L_volumeAt_13 : decode c_L_volumeAt 13 = .ok (.iload_n 1, 1) := by decide +kernel
theorem d_L_volumeAt_14 : decode c_L_volumeAt 14 = .ok (.aaload, 1) := by decide +kernel
theorem d_L_volumeAt_15 : decode c_L_volumeAt 15 = .ok (.goto 4, 3) := by decide +kernel
theorem d_L_volumeAt_18 : decode c_L_volumeAt 18 = .ok (.aconst_null, 1) := by decide +kernel
theorem d_L_volumeAt_19 : decode c_L_volumeAt 19 = .ok (.areturn, 1) := by decide +kernel
theorem d_L_withVolume_0 : decode c_L_withVolume 0 = .ok (.new 10, 3) := by decide +kernel
theorem d_L_withVolume_3 : decode c_L_withVolume 3 = .ok (.dup, 1) := by decide +kernel
theorem d_L_withVolume_4 : decode c_L_withVolume 4 = .ok (.aload_n 0, 1) := by decide +kernel
theorem d_L_withVolume_5 : decode c_L_withVolume 5 = .ok (.iload_n 1, 1) := by decide +kernel
theorem d_L_withVolume_6 : decode c_L_withVolume 6 = .ok (.aload_n 2, 1) := by decide +kernel
theorem d_L_withVolume_7 : decode c_L_withVolume 7 = .ok (.invokevirtual 19, 3) := by decide +kernel
theorem d_L_withVolume_10 : decode c_L_withVolume 10 = .ok (.aload_n 0, 1) := by decide +kernel
theorem d_L_withVolume_11 : decode c_L_withVolume 11 = .ok (.getfield 15, 3) := by decide +kernel
theorem d_L_withVolume_14 : decode c_L_withVolume 14 = .ok (.invokespecial 23, 3) := by decide +kernel
theorem d_L_withVolume_17 : decode c_L_withVolume 17 = .ok (.areturn, 1) := by decide +kernel
theorem d_L_volumesWith_0 : decode c_L_volumesWith 0 = .ok (.iconst 4, 1) := by decide +kernel
theorem d_L_volumesWith_1 : decode c_L_volumesWith 1 = .ok (.anewarray 43, 3) := by decide +kernel
theorem d_L_volumesWith_4 : decode c_L_volumesWith 4 = .ok (.astore_n 3, 1) := by decide +kernel
theorem d_L_volumesWith_5 : decode c_L_volumesWith 5 = .ok (.iconst 0, 1) := by decide +kernel
theorem d_L_volumesWith_6 : decode c_L_volumesWith 6 = .ok (.istore 4, 2) := by decide +kernel
theorem d_L_volumesWith_8 : decode c_L_volumesWith 8 = .ok (.iload 4, 2) := by decide +kernel
theorem d_L_volumesWith_10 : decode c_L_volumesWith 10 = .ok (.iconst 4, 1) := by decide +kernel
theorem d_L_volumesWith_11 : decode c_L_volumesWith 11 = .ok (.if_icmp .ge 30, 3) := by decide +kernel
theorem d_L_volumesWith_14 : decode c_L_volumesWith 14 = .ok (.aload_n 3, 1) := by decide +kernel
theorem d_L_volumesWith_15 : decode c_L_volumesWith 15 = .ok (.iload 4, 2) := by decide +kernel
theorem d_L_volumesWith_17 : decode c_L_volumesWith 17 = .ok (.iload 4, 2) := by decide +kernel
theorem d_L_volumesWith_19 : decode c_L_volumesWith 19 = .ok (.iload_n 1, 1) := by decide +kernel
theorem d_L_volumesWith_20 : decode c_L_volumesWith 20 = .ok (.if_icmp .ne 7, 3) := by decide +kernel
theorem d_L_volumesWith_23 : decode c_L_volumesWith 23 = .ok (.aload_n 2, 1) := by decide +kernel
theorem d_L_volumesWith_24 : decode c_L_volumesWith 24 = .ok (.goto 10, 3) := by decide +kernel
theorem d_L_volumesWith_27 : decode c_L_volumesWith 27 = .ok (.aload_n 0, 1) := by decide +kernel
theorem d_L_volumesWith_28 : decode c_L_volumesWith 28 = .ok (.getfield 9, 3) := by decide +kernel
theorem d_L_volumesWith_31 : decode c_L_volumesWith 31 = .ok (.iload 4, 2) := by decide +kernel
theorem d_L_volumesWith_33 : decode c_L_volumesWith 33 = .ok (.aaload, 1) := by decide +kernel
theorem d_L_volumesWith_34 : decode c_L_volumesWith 34 = .ok (.aastore, 1) := by decide +kernel
theorem d_L_volumesWith_35 : decode c_L_volumesWith 35 = .ok (.iinc 4 1, 3) := by decide +kernel
theorem d_L_volumesWith_38 : decode c_L_volumesWith 38 = .ok (.goto (-30), 3) := by decide +kernel
theorem d_L_volumesWith_41 : decode c_L_volumesWith 41 = .ok (.aload_n 3, 1) := by decide +kernel
theorem d_L_volumesWith_42 : decode c_L_volumesWith 42 = .ok (.areturn, 1) := by decide +kernel
theorem d_D_slotBehind_0 : decode c_D_slotBehind 0 = .ok (.aload_n 0, 1) := by decide +kernel
theorem d_D_slotBehind_1 : decode c_D_slotBehind 1 = .ok (.aload_n 1, 1) := by decide +kernel
theorem d_D_slotBehind_2 : decode c_D_slotBehind 2 = .ok (.invokevirtual 37, 3) := by decide +kernel
theorem d_D_slotBehind_5 : decode c_D_slotBehind 5 = .ok (.istore_n 2, 1) := by decide +kernel
theorem d_D_slotBehind_6 : decode c_D_slotBehind 6 = .ok (.iload_n 2, 1) := by decide +kernel
theorem d_D_slotBehind_7 : decode c_D_slotBehind 7 = .ok (.iconst (-1), 1) := by decide +kernel
theorem d_D_slotBehind_8 : decode c_D_slotBehind 8 = .ok (.if_icmp .ne 10, 3) := by decide +kernel
theorem d_D_slotBehind_11 : decode c_D_slotBehind 11 = .ok (.aload_n 0, 1) := by decide +kernel
theorem d_D_slotBehind_12 : decode c_D_slotBehind 12 = .ok (.getfield 25, 3) := by decide +kernel
theorem d_D_slotBehind_15 : decode c_D_slotBehind 15 = .ok (.goto 8, 3) := by decide +kernel
theorem d_D_slotBehind_18 : decode c_D_slotBehind 18 = .ok (.iload_n 2, 1) := by decide +kernel
theorem d_D_slotBehind_19 : decode c_D_slotBehind 19 = .ok (.iconst 1, 1) := by decide +kernel
theorem d_D_slotBehind_20 : decode c_D_slotBehind 20 = .ok (.iadd, 1) := by decide +kernel
theorem d_D_slotBehind_21 : decode c_D_slotBehind 21 = .ok (.iconst 3, 1) := by decide +kernel
theorem d_D_slotBehind_22 : decode c_D_slotBehind 22 = .ok (.irem, 1) := by decide +kernel
theorem d_D_slotBehind_23 : decode c_D_slotBehind 23 = .ok (.ireturn, 1) := by decide +kernel
theorem d_D_slotWith_0 : decode c_D_slotWith 0 = .ok (.iconst 0, 1) := by decide +kernel
theorem d_D_slotWith_1 : decode c_D_slotWith 1 = .ok (.istore_n 2, 1) := by decide +kernel
theorem d_D_slotWith_2 : decode c_D_slotWith 2 = .ok (.iload_n 2, 1) := by decide +kernel
theorem d_D_slotWith_3 : decode c_D_slotWith 3 = .ok (.iconst 3, 1) := by decide +kernel
theorem d_D_slotWith_4 : decode c_D_slotWith 4 = .ok (.if_icmp .ge 33, 3) := by decide +kernel
theorem d_D_slotWith_7 : decode c_D_slotWith 7 = .ok (.aload_n 0, 1) := by decide +kernel
theorem d_D_slotWith_8 : decode c_D_slotWith 8 = .ok (.getfield 17, 3) := by decide +kernel
theorem d_D_slotWith_11 : decode c_D_slotWith 11 = .ok (.iload_n 2, 1) := by decide +kernel
theorem d_D_slotWith_12 : decode c_D_slotWith 12 = .ok (.aaload, 1) := by decide +kernel
theorem d_D_slotWith_13 : decode c_D_slotWith 13 = .ok (.ifnull 18, 3) := by decide +kernel
theorem d_D_slotWith_16 : decode c_D_slotWith 16 = .ok (.aload_n 0, 1) := by decide +kernel
theorem d_D_slotWith_17 : decode c_D_slotWith 17 = .ok (.getfield 17, 3) := by decide +kernel
theorem d_D_slotWith_20 : decode c_D_slotWith 20 = .ok (.iload_n 2, 1) := by decide +kernel
theorem d_D_slotWith_21 : decode c_D_slotWith 21 = .ok (.aaload, 1) := by decide +kernel
theorem d_D_slotWith_22 : decode c_D_slotWith 22 = .ok (.aload_n 1, 1) := by decide +kernel
theorem d_D_slotWith_23 : decode c_D_slotWith 23 = .ok (.invokevirtual 33, 3) := by decide +kernel
theorem d_D_slotWith_26 : decode c_D_slotWith 26 = .ok (.ifCond .eq 5, 3) := by decide +kernel
theorem d_D_slotWith_29 : decode c_D_slotWith 29 = .ok (.iload_n 2, 1) := by decide +kernel
theorem d_D_slotWith_30 : decode c_D_slotWith 30 = .ok (.ireturn, 1) := by decide +kernel
theorem d_D_slotWith_31 : decode c_D_slotWith 31 = .ok (.iinc 2 1, 3) := by decide +kernel
theorem d_D_slotWith_34 : decode c_D_slotWith 34 = .ok (.goto (-32), 3) := by decide +kernel
theorem d_D_slotWith_37 : decode c_D_slotWith 37 = .ok (.iconst (-1), 1) := by decide +kernel
theorem d_D_slotWith_38 : decode c_D_slotWith 38 = .ok (.ireturn, 1) := by decide +kernel
theorem d_C_isSame_0 : decode c_C_isSame 0 = .ok (.aload_n 0, 1) := by decide +kernel
theorem d_C_isSame_1 : decode c_C_isSame 1 = .ok (.getfield 7, 3) := by decide +kernel
theorem d_C_isSame_4 : decode c_C_isSame 4 = .ok (.aload_n 1, 1) := by decide +kernel
theorem d_C_isSame_5 : decode c_C_isSame 5 = .ok (.getfield 7, 3) := by decide +kernel
theorem d_C_isSame_8 : decode c_C_isSame 8 = .ok (.if_icmp .ne 18, 3) := by decide +kernel
theorem d_C_isSame_11 : decode c_C_isSame 11 = .ok (.aload_n 0, 1) := by decide +kernel
theorem d_C_isSame_12 : decode c_C_isSame 12 = .ok (.getfield 13, 3) := by decide +kernel
theorem d_C_isSame_15 : decode c_C_isSame 15 = .ok (.aload_n 1, 1) := by decide +kernel
theorem d_C_isSame_16 : decode c_C_isSame 16 = .ok (.getfield 13, 3) := by decide +kernel
theorem d_C_isSame_19 : decode c_C_isSame 19 = .ok (.if_icmp .ne 7, 3) := by decide +kernel
theorem d_C_isSame_22 : decode c_C_isSame 22 = .ok (.iconst 1, 1) := by decide +kernel
theorem d_C_isSame_23 : decode c_C_isSame 23 = .ok (.goto 4, 3) := by decide +kernel
theorem d_C_isSame_26 : decode c_C_isSame 26 = .ok (.iconst 0, 1) := by decide +kernel
theorem d_C_isSame_27 : decode c_C_isSame 27 = .ok (.ireturn, 1) := by decide +kernel
theorem d_U_withRows_0 : decode c_U_withRows 0 = .ok (.new 10, 3) := by decide +kernel
theorem d_U_withRows_3 : decode c_U_withRows 3 = .ok (.dup, 1) := by decide +kernel
theorem d_U_withRows_4 : decode c_U_withRows 4 = .ok (.aload_n 0, 1) := by decide +kernel
theorem d_U_withRows_5 : decode c_U_withRows 5 = .ok (.getfield 9, 3) := by decide +kernel
theorem d_U_withRows_8 : decode c_U_withRows 8 = .ok (.aload_n 0, 1) := by decide +kernel
theorem d_U_withRows_9 : decode c_U_withRows 9 = .ok (.getfield 15, 3) := by decide +kernel
theorem d_U_withRows_12 : decode c_U_withRows 12 = .ok (.iload_n 1, 1) := by decide +kernel
theorem d_U_withRows_13 : decode c_U_withRows 13 = .ok (.aload_n 0, 1) := by decide +kernel
theorem d_U_withRows_14 : decode c_U_withRows 14 = .ok (.getfield 21, 3) := by decide +kernel
theorem d_U_withRows_17 : decode c_U_withRows 17 = .ok (.aload_n 0, 1) := by decide +kernel
theorem d_U_withRows_18 : decode c_U_withRows 18 = .ok (.getfield 9, 3) := by decide +kernel
theorem d_U_withRows_21 : decode c_U_withRows 21 = .ok (.iload_n 1, 1) := by decide +kernel
theorem d_U_withRows_22 : decode c_U_withRows 22 = .ok (.imul, 1) := by decide +kernel
theorem d_U_withRows_23 : decode c_U_withRows 23 = .ok (.invokestatic 25, 3) := by decide +kernel
theorem d_U_withRows_26 : decode c_U_withRows 26 = .ok (.invokespecial 31, 3) := by decide +kernel
theorem d_U_withRows_29 : decode c_U_withRows 29 = .ok (.areturn, 1) := by decide +kernel
theorem d_U_hasExtent_0 : decode c_U_hasExtent 0 = .ok (.iload_n 1, 1) := by decide +kernel
theorem d_U_hasExtent_1 : decode c_U_hasExtent 1 = .ok (.ifCond .lt 16, 3) := by decide +kernel
theorem d_U_hasExtent_4 : decode c_U_hasExtent 4 = .ok (.iload_n 1, 1) := by decide +kernel
theorem d_U_hasExtent_5 : decode c_U_hasExtent 5 = .ok (.aload_n 0, 1) := by decide +kernel
theorem d_U_hasExtent_6 : decode c_U_hasExtent 6 = .ok (.getfield 21, 3) := by decide +kernel
theorem d_U_hasExtent_9 : decode c_U_hasExtent 9 = .ok (.arraylength, 1) := by decide +kernel
theorem d_U_hasExtent_10 : decode c_U_hasExtent 10 = .ok (.if_icmp .ge 7, 3) := by decide +kernel
theorem d_U_hasExtent_13 : decode c_U_hasExtent 13 = .ok (.iconst 1, 1) := by decide +kernel
theorem d_U_hasExtent_14 : decode c_U_hasExtent 14 = .ok (.goto 4, 3) := by decide +kernel
theorem d_U_hasExtent_17 : decode c_U_hasExtent 17 = .ok (.iconst 0, 1) := by decide +kernel
theorem d_U_hasExtent_18 : decode c_U_hasExtent 18 = .ok (.ireturn, 1) := by decide +kernel
theorem d_V_init_0 : decode c_V_init 0 = .ok (.aload_n 0, 1) := by decide +kernel
theorem d_V_init_1 : decode c_V_init 1 = .ok (.invokespecial 1, 3) := by decide +kernel
theorem d_V_init_4 : decode c_V_init 4 = .ok (.aload_n 0, 1) := by decide +kernel
theorem d_V_init_5 : decode c_V_init 5 = .ok (.iload_n 1, 1) := by decide +kernel
theorem d_V_init_6 : decode c_V_init 6 = .ok (.putfield 7, 3) := by decide +kernel
theorem d_V_init_9 : decode c_V_init 9 = .ok (.aload_n 0, 1) := by decide +kernel
theorem d_V_init_10 : decode c_V_init 10 = .ok (.iload_n 2, 1) := by decide +kernel
theorem d_V_init_11 : decode c_V_init 11 = .ok (.putfield 13, 3) := by decide +kernel
theorem d_V_init_14 : decode c_V_init 14 = .ok (.aload_n 0, 1) := by decide +kernel
theorem d_V_init_15 : decode c_V_init 15 = .ok (.iload_n 3, 1) := by decide +kernel
theorem d_V_init_16 : decode c_V_init 16 = .ok (.putfield 16, 3) := by decide +kernel
theorem d_V_init_19 : decode c_V_init 19 = .ok (.aload_n 0, 1) := by decide +kernel
theorem d_V_init_20 : decode c_V_init 20 = .ok (.iload 4, 2) := by decide +kernel
theorem d_V_init_22 : decode c_V_init 22 = .ok (.putfield 19, 3) := by decide +kernel
theorem d_V_init_25 : decode c_V_init 25 = .ok (.return_, 1) := by decide +kernel
theorem d_L_withMove_0 : decode c_L_withMove 0 = .ok (.new 10, 3) := by decide +kernel
theorem d_L_withMove_3 : decode c_L_withMove 3 = .ok (.dup, 1) := by decide +kernel
theorem d_L_withMove_4 : decode c_L_withMove 4 = .ok (.aload_n 0, 1) := by decide +kernel
theorem d_L_withMove_5 : decode c_L_withMove 5 = .ok (.getfield 9, 3) := by decide +kernel
theorem d_L_withMove_8 : decode c_L_withMove 8 = .ok (.aload_n 1, 1) := by decide +kernel
theorem d_L_withMove_9 : decode c_L_withMove 9 = .ok (.invokespecial 23, 3) := by decide +kernel
theorem d_L_withMove_12 : decode c_L_withMove 12 = .ok (.areturn, 1) := by decide +kernel
theorem d_L_withMoveDone_0 : decode c_L_withMoveDone 0 = .ok (.aload_n 0, 1) := by decide +kernel
theorem d_L_withMoveDone_1 : decode c_L_withMoveDone 1 = .ok (.getfield 15, 3) := by decide +kernel
theorem d_L_withMoveDone_4 : decode c_L_withMoveDone 4 = .ok (.ifnonnull 7, 3) := by decide +kernel
theorem d_L_withMoveDone_7 : decode c_L_withMoveDone 7 = .ok (.aconst_null, 1) := by decide +kernel
theorem d_L_withMoveDone_8 : decode c_L_withMoveDone 8 = .ok (.goto 14, 3) := by decide +kernel
theorem d_L_withMoveDone_11 : decode c_L_withMoveDone 11 = .ok (.aload_n 0, 1) := by decide +kernel
theorem d_L_withMoveDone_12 : decode c_L_withMoveDone 12 = .ok (.aload_n 0, 1) := by decide +kernel
theorem d_L_withMoveDone_13 : decode c_L_withMoveDone 13 = .ok (.getfield 15, 3) := by decide +kernel
theorem d_L_withMoveDone_16 : decode c_L_withMoveDone 16 = .ok (.getfield 26, 3) := by decide +kernel
theorem d_L_withMoveDone_19 : decode c_L_withMoveDone 19 = .ok (.invokevirtual 32, 3) := by decide +kernel
theorem d_L_withMoveDone_22 : decode c_L_withMoveDone 22 = .ok (.astore_n 1, 1) := by decide +kernel
theorem d_L_withMoveDone_23 : decode c_L_withMoveDone 23 = .ok (.aload_n 1, 1) := by decide +kernel
theorem d_L_withMoveDone_24 : decode c_L_withMoveDone 24 = .ok (.ifnonnull 5, 3) := by decide +kernel
theorem d_L_withMoveDone_27 : decode c_L_withMoveDone 27 = .ok (.aload_n 0, 1) := by decide +kernel
theorem d_L_withMoveDone_28 : decode c_L_withMoveDone 28 = .ok (.areturn, 1) := by decide +kernel
theorem d_L_withMoveDone_29 : decode c_L_withMoveDone 29 = .ok (.new 10, 3) := by decide +kernel
theorem d_L_withMoveDone_32 : decode c_L_withMoveDone 32 = .ok (.dup, 1) := by decide +kernel
theorem d_L_withMoveDone_33 : decode c_L_withMoveDone 33 = .ok (.aload_n 0, 1) := by decide +kernel
theorem d_L_withMoveDone_34 : decode c_L_withMoveDone 34 = .ok (.aload_n 0, 1) := by decide +kernel
theorem d_L_withMoveDone_35 : decode c_L_withMoveDone 35 = .ok (.getfield 15, 3) := by decide +kernel
theorem d_L_withMoveDone_38 : decode c_L_withMoveDone 38 = .ok (.getfield 26, 3) := by decide +kernel
theorem d_L_withMoveDone_41 : decode c_L_withMoveDone 41 = .ok (.aload_n 1, 1) := by decide +kernel
theorem d_L_withMoveDone_42 : decode c_L_withMoveDone 42 = .ok (.aload_n 0, 1) := by decide +kernel
theorem d_L_withMoveDone_43 : decode c_L_withMoveDone 43 = .ok (.getfield 15, 3) := by decide +kernel
theorem d_L_withMoveDone_46 : decode c_L_withMoveDone 46 = .ok (.getfield 36, 3) := by decide +kernel
theorem d_L_withMoveDone_49 : decode c_L_withMoveDone 49 = .ok (.aload_n 0, 1) := by decide +kernel
theorem d_L_withMoveDone_50 : decode c_L_withMoveDone 50 = .ok (.getfield 15, 3) := by decide +kernel
theorem d_L_withMoveDone_53 : decode c_L_withMoveDone 53 = .ok (.getfield 39, 3) := by decide +kernel
theorem d_L_withMoveDone_56 : decode c_L_withMoveDone 56 = .ok (.invokevirtual 42, 3) := by decide +kernel
theorem d_L_withMoveDone_59 : decode c_L_withMoveDone 59 = .ok (.invokevirtual 19, 3) := by decide +kernel
theorem d_L_withMoveDone_62 : decode c_L_withMoveDone 62 = .ok (.aconst_null, 1) := by decide +kernel
theorem d_L_withMoveDone_63 : decode c_L_withMoveDone 63 = .ok (.invokespecial 23, 3) := by decide +kernel
theorem d_L_withMoveDone_66 : decode c_L_withMoveDone 66 = .ok (.areturn, 1) := by decide +kernel
theorem d_U_withPlace_0 : decode c_U_withPlace 0 = .ok (.aload_n 0, 1) := by decide +kernel
theorem d_U_withPlace_1 : decode c_U_withPlace 1 = .ok (.aload_n 0, 1) := by decide +kernel
theorem d_U_withPlace_2 : decode c_U_withPlace 2 = .ok (.getfield 18, 3) := by decide +kernel
theorem d_U_withPlace_5 : decode c_U_withPlace 5 = .ok (.invokevirtual 34, 3) := by decide +kernel
theorem d_U_withPlace_8 : decode c_U_withPlace 8 = .ok (.astore_n 3, 1) := by decide +kernel
theorem d_U_withPlace_9 : decode c_U_withPlace 9 = .ok (.aload_n 0, 1) := by decide +kernel
theorem d_U_withPlace_10 : decode c_U_withPlace 10 = .ok (.iload_n 1, 1) := by decide +kernel
theorem d_U_withPlace_11 : decode c_U_withPlace 11 = .ok (.invokevirtual 38, 3) := by decide +kernel
theorem d_U_withPlace_14 : decode c_U_withPlace 14 = .ok (.ifCond .eq 10, 3) := by decide +kernel
theorem d_U_withPlace_17 : decode c_U_withPlace 17 = .ok (.aload_n 3, 1) := by decide +kernel
theorem d_U_withPlace_18 : decode c_U_withPlace 18 = .ok (.getfield 21, 3) := by decide +kernel
theorem d_U_withPlace_21 : decode c_U_withPlace 21 = .ok (.iload_n 1, 1) := by decide +kernel
theorem d_U_withPlace_22 : decode c_U_withPlace 22 = .ok (.iload_n 2, 1) := by decide +kernel
theorem d_U_withPlace_23 : decode c_U_withPlace 23 = .ok (.iastore, 1) := by decide +kernel
theorem d_U_withPlace_24 : decode c_U_withPlace 24 = .ok (.aload_n 3, 1) := by decide +kernel
theorem d_U_withPlace_25 : decode c_U_withPlace 25 = .ok (.areturn, 1) := by decide +kernel
theorem d_U_hasBlock_0 : decode c_U_hasBlock 0 = .ok (.iload_n 1, 1) := by decide +kernel
theorem d_U_hasBlock_1 : decode c_U_hasBlock 1 = .ok (.ifCond .lt 18, 3) := by decide +kernel
theorem d_U_hasBlock_4 : decode c_U_hasBlock 4 = .ok (.iload_n 1, 1) := by decide +kernel
theorem d_U_hasBlock_5 : decode c_U_hasBlock 5 = .ok (.iconst 4, 1) := by decide +kernel
theorem d_U_hasBlock_6 : decode c_U_hasBlock 6 = .ok (.aload_n 0, 1) := by decide +kernel
theorem d_U_hasBlock_7 : decode c_U_hasBlock 7 = .ok (.getfield 21, 3) := by decide +kernel
theorem d_U_hasBlock_10 : decode c_U_hasBlock 10 = .ok (.arraylength, 1) := by decide +kernel
theorem d_U_hasBlock_11 : decode c_U_hasBlock 11 = .ok (.imul, 1) := by decide +kernel
theorem d_U_hasBlock_12 : decode c_U_hasBlock 12 = .ok (.if_icmp .ge 7, 3) := by decide +kernel
theorem d_U_hasBlock_15 : decode c_U_hasBlock 15 = .ok (.iconst 1, 1) := by decide +kernel
theorem d_U_hasBlock_16 : decode c_U_hasBlock 16 = .ok (.goto 4, 3) := by decide +kernel
theorem d_U_hasBlock_19 : decode c_U_hasBlock 19 = .ok (.iconst 0, 1) := by decide +kernel
theorem d_U_hasBlock_20 : decode c_U_hasBlock 20 = .ok (.ireturn, 1) := by decide +kernel
theorem d_U_extentOf_0 : decode c_U_extentOf 0 = .ok (.iload_n 1, 1) := by decide +kernel
theorem d_U_extentOf_1 : decode c_U_extentOf 1 = .ok (.iconst 4, 1) := by decide +kernel
theorem d_U_extentOf_2 : decode c_U_extentOf 2 = .ok (.aload_n 0, 1) := by decide +kernel
theorem d_U_extentOf_3 : decode c_U_extentOf 3 = .ok (.getfield 9, 3) := by decide +kernel
theorem d_U_extentOf_6 : decode c_U_extentOf 6 = .ok (.imul, 1) := by decide +kernel
theorem d_U_extentOf_7 : decode c_U_extentOf 7 = .ok (.idiv, 1) := by decide +kernel
theorem d_U_extentOf_8 : decode c_U_extentOf 8 = .ok (.istore_n 2, 1) := by decide +kernel
theorem d_U_extentOf_9 : decode c_U_extentOf 9 = .ok (.iload_n 1, 1) := by decide +kernel
theorem d_U_extentOf_10 : decode c_U_extentOf 10 = .ok (.iconst 4, 1) := by decide +kernel
theorem d_U_extentOf_11 : decode c_U_extentOf 11 = .ok (.aload_n 0, 1) := by decide +kernel
theorem d_U_extentOf_12 : decode c_U_extentOf 12 = .ok (.getfield 9, 3) := by decide +kernel
theorem d_U_extentOf_15 : decode c_U_extentOf 15 = .ok (.imul, 1) := by decide +kernel
theorem d_U_extentOf_16 : decode c_U_extentOf 16 = .ok (.irem, 1) := by decide +kernel
theorem d_U_extentOf_17 : decode c_U_extentOf 17 = .ok (.istore_n 3, 1) := by decide +kernel
theorem d_U_extentOf_18 : decode c_U_extentOf 18 = .ok (.aload_n 0, 1) := by decide +kernel
theorem d_U_extentOf_19 : decode c_U_extentOf 19 = .ok (.getfield 9, 3) := by decide +kernel
theorem d_U_extentOf_22 : decode c_U_extentOf 22 = .ok (.iload_n 2, 1) := by decide +kernel
theorem d_U_extentOf_23 : decode c_U_extentOf 23 = .ok (.imul, 1) := by decide +kernel
theorem d_U_extentOf_24 : decode c_U_extentOf 24 = .ok (.iload_n 3, 1) := by decide +kernel
theorem d_U_extentOf_25 : decode c_U_extentOf 25 = .ok (.aload_n 0, 1) := by decide +kernel
theorem d_U_extentOf_26 : decode c_U_extentOf 26 = .ok (.getfield 15, 3) := by decide +kernel
theorem d_U_extentOf_29 : decode c_U_extentOf 29 = .ok (.idiv, 1) := by decide +kernel
theorem d_U_extentOf_30 : decode c_U_extentOf 30 = .ok (.aload_n 0, 1) := by decide +kernel
theorem d_U_extentOf_31 : decode c_U_extentOf 31 = .ok (.getfield 9, 3) := by decide +kernel
theorem d_U_extentOf_34 : decode c_U_extentOf 34 = .ok (.irem, 1) := by decide +kernel
theorem d_U_extentOf_35 : decode c_U_extentOf 35 = .ok (.iadd, 1) := by decide +kernel
theorem d_U_extentOf_36 : decode c_U_extentOf 36 = .ok (.ireturn, 1) := by decide +kernel
theorem d_U_cellOf_0 : decode c_U_cellOf 0 = .ok (.iload_n 1, 1) := by decide +kernel
theorem d_U_cellOf_1 : decode c_U_cellOf 1 = .ok (.iconst 4, 1) := by decide +kernel
theorem d_U_cellOf_2 : decode c_U_cellOf 2 = .ok (.aload_n 0, 1) := by decide +kernel
theorem d_U_cellOf_3 : decode c_U_cellOf 3 = .ok (.getfield 9, 3) := by decide +kernel
theorem d_U_cellOf_6 : decode c_U_cellOf 6 = .ok (.imul, 1) := by decide +kernel
theorem d_U_cellOf_7 : decode c_U_cellOf 7 = .ok (.irem, 1) := by decide +kernel
theorem d_U_cellOf_8 : decode c_U_cellOf 8 = .ok (.istore_n 2, 1) := by decide +kernel
theorem d_U_cellOf_9 : decode c_U_cellOf 9 = .ok (.iload_n 2, 1) := by decide +kernel
theorem d_U_cellOf_10 : decode c_U_cellOf 10 = .ok (.aload_n 0, 1) := by decide +kernel
theorem d_U_cellOf_11 : decode c_U_cellOf 11 = .ok (.getfield 15, 3) := by decide +kernel
theorem d_U_cellOf_14 : decode c_U_cellOf 14 = .ok (.idiv, 1) := by decide +kernel
theorem d_U_cellOf_15 : decode c_U_cellOf 15 = .ok (.aload_n 0, 1) := by decide +kernel
theorem d_U_cellOf_16 : decode c_U_cellOf 16 = .ok (.getfield 9, 3) := by decide +kernel
theorem d_U_cellOf_19 : decode c_U_cellOf 19 = .ok (.idiv, 1) := by decide +kernel
theorem d_U_cellOf_20 : decode c_U_cellOf 20 = .ok (.aload_n 0, 1) := by decide +kernel
theorem d_U_cellOf_21 : decode c_U_cellOf 21 = .ok (.getfield 15, 3) := by decide +kernel
theorem d_U_cellOf_24 : decode c_U_cellOf 24 = .ok (.imul, 1) := by decide +kernel
theorem d_U_cellOf_25 : decode c_U_cellOf 25 = .ok (.iload_n 2, 1) := by decide +kernel
theorem d_U_cellOf_26 : decode c_U_cellOf 26 = .ok (.aload_n 0, 1) := by decide +kernel
theorem d_U_cellOf_27 : decode c_U_cellOf 27 = .ok (.getfield 15, 3) := by decide +kernel
theorem d_U_cellOf_30 : decode c_U_cellOf 30 = .ok (.irem, 1) := by decide +kernel
theorem d_U_cellOf_31 : decode c_U_cellOf 31 = .ok (.iadd, 1) := by decide +kernel
theorem d_U_cellOf_32 : decode c_U_cellOf 32 = .ok (.ireturn, 1) := by decide +kernel
