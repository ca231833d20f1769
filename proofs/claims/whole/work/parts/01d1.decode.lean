theorem d_E_init_0 : decode c_E_init 0 = .ok (.aload_n 0, 1) := by decide +kernel
theorem d_E_init_1 : decode c_E_init 1 = .ok (.invokespecial 1, 3) := by decide +kernel
theorem d_E_init_4 : decode c_E_init 4 = .ok (.iload_n 1, 1) := by decide +kernel
theorem d_E_init_5 : decode c_E_init 5 = .ok (.iconst 2, 1) := by decide +kernel
theorem d_E_init_6 : decode c_E_init 6 = .ok (.invokestatic 7, 3) := by decide +kernel
theorem d_E_init_9 : decode c_E_init 9 = .ok (.iconst 5, 1) := by decide +kernel
theorem d_E_init_10 : decode c_E_init 10 = .ok (.invokestatic 13, 3) := by decide +kernel
theorem d_E_init_13 : decode c_E_init 13 = .ok (.istore_n 3, 1) := by decide +kernel
theorem d_E_init_14 : decode c_E_init 14 = .ok (.aload_n 0, 1) := by decide +kernel
theorem d_E_init_15 : decode c_E_init 15 = .ok (.iload_n 2, 1) := by decide +kernel
theorem d_E_init_16 : decode c_E_init 16 = .ok (.iconst 2, 1) := by decide +kernel
theorem d_E_init_17 : decode c_E_init 17 = .ok (.invokestatic 7, 3) := by decide +kernel
theorem d_E_init_20 : decode c_E_init 20 = .ok (.bipush 10, 2) := by decide +kernel
theorem d_E_init_22 : decode c_E_init 22 = .ok (.invokestatic 13, 3) := by decide +kernel
theorem d_E_init_25 : decode c_E_init 25 = .ok (.putfield 16, 3) := by decide +kernel
theorem d_E_init_28 : decode c_E_init 28 = .ok (.new 22, 3) := by decide +kernel
theorem d_E_init_31 : decode c_E_init 31 = .ok (.dup, 1) := by decide +kernel
theorem d_E_init_32 : decode c_E_init 32 = .ok (.iconst 1, 1) := by decide +kernel
theorem d_E_init_33 : decode c_E_init 33 = .ok (.iconst 1, 1) := by decide +kernel
theorem d_E_init_34 : decode c_E_init 34 = .ok (.new 24, 3) := by decide +kernel
theorem d_E_init_37 : decode c_E_init 37 = .ok (.dup, 1) := by decide +kernel
theorem d_E_init_38 : decode c_E_init 38 = .ok (.iconst 4, 1) := by decide +kernel
theorem d_E_init_39 : decode c_E_init 39 = .ok (.anewarray 26, 3) := by decide +kernel
theorem d_E_init_42 : decode c_E_init 42 = .ok (.aconst_null, 1) := by decide +kernel
theorem d_E_init_43 : decode c_E_init 43 = .ok (.invokespecial 28, 3) := by decide +kernel
theorem d_E_init_46 : decode c_E_init 46 = .ok (.invokespecial 31, 3) := by decide +kernel
theorem d_E_init_49 : decode c_E_init 49 = .ok (.astore 4, 2) := by decide +kernel
theorem d_E_init_51 : decode c_E_init 51 = .ok (.aload_n 0, 1) := by decide +kernel
theorem d_E_init_52 : decode c_E_init 52 = .ok (.iload_n 3, 1) := by decide +kernel
theorem d_E_init_53 : decode c_E_init 53 = .ok (.anewarray 34, 3) := by decide +kernel
theorem d_E_init_56 : decode c_E_init 56 = .ok (.putfield 36, 3) := by decide +kernel
theorem d_E_init_59 : decode c_E_init 59 = .ok (.iconst 0, 1) := by decide +kernel
theorem d_E_init_60 : decode c_E_init 60 = .ok (.istore 5, 2) := by decide +kernel
theorem d_E_init_62 : decode c_E_init 62 = .ok (.iload 5, 2) := by decide +kernel
theorem d_E_init_64 : decode c_E_init 64 = .ok (.iload_n 3, 1) := by decide +kernel
theorem d_E_init_65 : decode c_E_init 65 = .ok (.if_icmp .ge 29, 3) := by decide +kernel
theorem d_E_init_68 : decode c_E_init 68 = .ok (.aload_n 0, 1) := by decide +kernel
theorem d_E_init_69 : decode c_E_init 69 = .ok (.getfield 36, 3) := by decide +kernel
theorem d_E_init_72 : decode c_E_init 72 = .ok (.iload 5, 2) := by decide +kernel
theorem d_E_init_74 : decode c_E_init 74 = .ok (.new 34, 3) := by decide +kernel
theorem d_E_init_77 : decode c_E_init 77 = .ok (.dup, 1) := by decide +kernel
theorem d_E_init_78 : decode c_E_init 78 = .ok (.aload_n 0, 1) := by decide +kernel
theorem d_E_init_79 : decode c_E_init 79 = .ok (.getfield 16, 3) := by decide +kernel
theorem d_E_init_82 : decode c_E_init 82 = .ok (.aload 4, 2) := by decide +kernel
theorem d_E_init_84 : decode c_E_init 84 = .ok (.invokespecial 40, 3) := by decide +kernel
theorem d_E_init_87 : decode c_E_init 87 = .ok (.aastore, 1) := by decide +kernel
theorem d_E_init_88 : decode c_E_init 88 = .ok (.iinc 5 1, 3) := by decide +kernel
theorem d_E_init_91 : decode c_E_init 91 = .ok (.goto (-29), 3) := by decide +kernel
theorem d_E_init_94 : decode c_E_init 94 = .ok (.aload_n 0, 1) := by decide +kernel
theorem d_E_init_95 : decode c_E_init 95 = .ok (.iload_n 3, 1) := by decide +kernel
theorem d_E_init_96 : decode c_E_init 96 = .ok (.newarray .int, 2) := by decide +kernel
theorem d_E_init_98 : decode c_E_init 98 = .ok (.putfield 43, 3) := by decide +kernel
theorem d_E_init_101 : decode c_E_init 101 = .ok (.aload_n 0, 1) := by decide +kernel
theorem d_E_init_102 : decode c_E_init 102 = .ok (.aload 4, 2) := by decide +kernel
theorem d_E_init_104 : decode c_E_init 104 = .ok (.putfield 47, 3) := by decide +kernel
theorem d_E_init_107 : decode c_E_init 107 = .ok (.aload_n 0, 1) := by decide +kernel
theorem d_E_init_108 : decode c_E_init 108 = .ok (.iconst 0, 1) := by decide +kernel
theorem d_E_init_109 : decode c_E_init 109 = .ok (.putfield 51, 3) := by decide +kernel
theorem d_E_init_112 : decode c_E_init 112 = .ok (.aload_n 0, 1) := by decide +kernel
theorem d_E_init_113 : decode c_E_init 113 = .ok (.aload 4, 2) := by decide +kernel
theorem d_E_init_115 : decode c_E_init 115 = .ok (.getfield 54, 3) := by decide +kernel
theorem d_E_init_118 : decode c_E_init 118 = .ok (.putfield 57, 3) := by decide +kernel
theorem d_E_init_121 : decode c_E_init 121 = .ok (.aload_n 0, 1) := by decide +kernel
theorem d_E_init_122 : decode c_E_init 122 = .ok (.iconst 1, 1) := by decide +kernel
theorem d_E_init_123 : decode c_E_init 123 = .ok (.putfield 60, 3) := by decide +kernel
theorem d_E_init_126 : decode c_E_init 126 = .ok (.aload_n 0, 1) := by decide +kernel
theorem d_E_init_127 : decode c_E_init 127 = .ok (.iconst (-1), 1) := by decide +kernel
theorem d_E_init_128 : decode c_E_init 128 = .ok (.putfield 64, 3) := by decide +kernel
theorem d_E_init_131 : decode c_E_init 131 = .ok (.return_, 1) := by decide +kernel
theorem d_E_create_0 : decode c_E_create 0 = .ok (.aload_n 0, 1) := by decide +kernel
theorem d_E_create_1 : decode c_E_create 1 = .ok (.getfield 60, 3) := by decide +kernel
theorem d_E_create_4 : decode c_E_create 4 = .ok (.ifCond .ne 6, 3) := by decide +kernel
theorem d_E_create_7 : decode c_E_create 7 = .ok (.bipush (-2), 2) := by decide +kernel
theorem d_E_create_9 : decode c_E_create 9 = .ok (.ireturn, 1) := by decide +kernel
theorem d_E_create_10 : decode c_E_create 10 = .ok (.iload_n 1, 1) := by decide +kernel
theorem d_E_create_11 : decode c_E_create 11 = .ok (.iload_n 2, 1) := by decide +kernel
theorem d_E_create_12 : decode c_E_create 12 = .ok (.invokestatic 67, 3) := by decide +kernel
theorem d_E_create_15 : decode c_E_create 15 = .ok (.ifCond .eq 16, 3) := by decide +kernel
theorem d_E_create_18 : decode c_E_create 18 = .ok (.iload_n 3, 1) := by decide +kernel
theorem d_E_create_19 : decode c_E_create 19 = .ok (.iconst 1, 1) := by decide +kernel
theorem d_E_create_20 : decode c_E_create 20 = .ok (.if_icmp .lt 11, 3) := by decide +kernel
theorem d_E_create_23 : decode c_E_create 23 = .ok (.iload_n 3, 1) := by decide +kernel
theorem d_E_create_24 : decode c_E_create 24 = .ok (.bipush 12, 2) := by decide +kernel
theorem d_E_create_26 : decode c_E_create 26 = .ok (.iload_n 1, 1) := by decide +kernel
theorem d_E_create_27 : decode c_E_create 27 = .ok (.idiv, 1) := by decide +kernel
theorem d_E_create_28 : decode c_E_create 28 = .ok (.if_icmp .le 5, 3) := by decide +kernel
theorem d_E_create_31 : decode c_E_create 31 = .ok (.iconst (-1), 1) := by decide +kernel
theorem d_E_create_32 : decode c_E_create 32 = .ok (.ireturn, 1) := by decide +kernel
theorem d_E_create_33 : decode c_E_create 33 = .ok (.aload_n 0, 1) := by decide +kernel
theorem d_E_create_34 : decode c_E_create 34 = .ok (.invokevirtual 71, 3) := by decide +kernel
theorem d_E_create_37 : decode c_E_create 37 = .ok (.ifCond .eq 6, 3) := by decide +kernel
theorem d_E_create_40 : decode c_E_create 40 = .ok (.bipush (-3), 2) := by decide +kernel
theorem d_E_create_42 : decode c_E_create 42 = .ok (.ireturn, 1) := by decide +kernel
theorem d_E_create_43 : decode c_E_create 43 = .ok (.aload_n 0, 1) := by decide +kernel
theorem d_E_create_44 : decode c_E_create 44 = .ok (.getfield 47, 3) := by decide +kernel
theorem d_E_create_47 : decode c_E_create 47 = .ok (.getfield 75, 3) := by decide +kernel
theorem d_E_create_50 : decode c_E_create 50 = .ok (.invokevirtual 79, 3) := by decide +kernel
theorem d_E_create_53 : decode c_E_create 53 = .ok (.istore 4, 2) := by decide +kernel
theorem d_E_create_55 : decode c_E_create 55 = .ok (.iload 4, 2) := by decide +kernel
theorem d_E_create_57 : decode c_E_create 57 = .ok (.iconst (-1), 1) := by decide +kernel
theorem d_E_create_58 : decode c_E_create 58 = .ok (.if_icmp .ne 6, 3) := by decide +kernel
theorem d_E_create_61 : decode c_E_create 61 = .ok (.bipush (-10), 2) := by decide +kernel
theorem d_E_create_63 : decode c_E_create 63 = .ok (.ireturn, 1) := by decide +kernel
theorem d_E_create_64 : decode c_E_create 64 = .ok (.new 26, 3) := by decide +kernel
theorem d_E_create_67 : decode c_E_create 67 = .ok (.dup, 1) := by decide +kernel
theorem d_E_create_68 : decode c_E_create 68 = .ok (.iload_n 1, 1) := by decide +kernel
theorem d_E_create_69 : decode c_E_create 69 = .ok (.iload_n 2, 1) := by decide +kernel
theorem d_E_create_70 : decode c_E_create 70 = .ok (.iload_n 3, 1) := by decide +kernel
theorem d_E_create_71 : decode c_E_create 71 = .ok (.iload_n 1, 1) := by decide +kernel
theorem d_E_create_72 : decode c_E_create 72 = .ok (.iload_n 3, 1) := by decide +kernel
theorem d_E_create_73 : decode c_E_create 73 = .ok (.imul, 1) := by decide +kernel
theorem d_E_create_74 : decode c_E_create 74 = .ok (.newarray .int, 2) := by decide +kernel
theorem d_E_create_76 : decode c_E_create 76 = .ok (.invokespecial 83, 3) := by decide +kernel
theorem d_E_create_79 : decode c_E_create 79 = .ok (.astore 5, 2) := by decide +kernel
theorem d_E_create_81 : decode c_E_create 81 = .ok (.aload_n 0, 1) := by decide +kernel
theorem d_E_create_82 : decode c_E_create 82 = .ok (.aload 5, 2) := by decide +kernel
theorem d_E_create_84 : decode c_E_create 84 = .ok (.iconst 0, 1) := by decide +kernel
theorem d_E_create_85 : decode c_E_create 85 = .ok (.invokevirtual 86, 3) := by decide +kernel
theorem d_E_create_88 : decode c_E_create 88 = .ok (.ifCond .ne 6, 3) := by decide +kernel
theorem d_E_create_91 : decode c_E_create 91 = .ok (.bipush (-5), 2) := by decide +kernel
theorem d_E_create_93 : decode c_E_create 93 = .ok (.ireturn, 1) := by decide +kernel
theorem d_E_create_94 : decode c_E_create 94 = .ok (.aload_n 0, 1) := by decide +kernel
theorem d_E_create_95 : decode c_E_create 95 = .ok (.aload_n 0, 1) := by decide +kernel
theorem d_E_create_96 : decode c_E_create 96 = .ok (.getfield 47, 3) := by decide +kernel
theorem d_E_create_99 : decode c_E_create 99 = .ok (.getfield 75, 3) := by decide +kernel
theorem d_E_create_102 : decode c_E_create 102 = .ok (.iload 4, 2) := by decide +kernel
theorem d_E_create_104 : decode c_E_create 104 = .ok (.aload 5, 2) := by decide +kernel
theorem d_E_create_106 : decode c_E_create 106 = .ok (.invokevirtual 90, 3) := by decide +kernel
theorem d_E_create_109 : decode c_E_create 109 = .ok (.invokevirtual 94, 3) := by decide +kernel
theorem d_E_create_112 : decode c_E_create 112 = .ok (.ifCond .eq 8, 3) := by decide +kernel
theorem d_E_create_115 : decode c_E_create 115 = .ok (.iload 4, 2) := by decide +kernel
theorem d_E_create_117 : decode c_E_create 117 = .ok (.goto 5, 3) := by decide +kernel
theorem d_E_create_120 : decode c_E_create 120 = .ok (.bipush (-7), 2) := by decide +kernel
theorem d_E_create_122 : decode c_E_create 122 = .ok (.ireturn, 1) := by decide +kernel
theorem d_E_isShape_0 : decode c_E_isShape 0 = .ok (.iload_n 0, 1) := by decide +kernel
theorem d_E_isShape_1 : decode c_E_isShape 1 = .ok (.iconst 1, 1) := by decide +kernel
theorem d_E_isShape_2 : decode c_E_isShape 2 = .ok (.if_icmp .lt 27, 3) := by decide +kernel
theorem d_E_isShape_5 : decode c_E_isShape 5 = .ok (.iload_n 0, 1) := by decide +kernel
theorem d_E_isShape_6 : decode c_E_isShape 6 = .ok (.iconst 4, 1) := by decide +kernel
theorem d_E_isShape_7 : decode c_E_isShape 7 = .ok (.if_icmp .gt 22, 3) := by decide +kernel
theorem d_E_isShape_10 : decode c_E_isShape 10 = .ok (.iload_n 1, 1) := by decide +kernel
theorem d_E_isShape_11 : decode c_E_isShape 11 = .ok (.iconst 1, 1) := by decide +kernel
theorem d_E_isShape_12 : decode c_E_isShape 12 = .ok (.if_icmp .eq 13, 3) := by decide +kernel
theorem d_E_isShape_15 : decode c_E_isShape 15 = .ok (.iload_n 1, 1) := by decide +kernel
theorem d_E_isShape_16 : decode c_E_isShape 16 = .ok (.iconst 2, 1) := by decide +kernel
theorem d_E_isShape_17 : decode c_E_isShape 17 = .ok (.if_icmp .eq 8, 3) := by decide +kernel
theorem d_E_isShape_20 : decode c_E_isShape 20 = .ok (.iload_n 1, 1) := by decide +kernel
theorem d_E_isShape_21 : decode c_E_isShape 21 = .ok (.iconst 4, 1) := by decide +kernel
theorem d_E_isShape_22 : decode c_E_isShape 22 = .ok (.if_icmp .ne 7, 3) := by decide +kernel
theorem d_E_isShape_25 : decode c_E_isShape 25 = .ok (.iconst 1, 1) := by decide +kernel
theorem d_E_isShape_26 : decode c_E_isShape 26 = .ok (.goto 4, 3) := by decide +kernel
theorem d_E_isShape_29 : decode c_E_isShape 29 = .ok (.iconst 0, 1) := by decide +kernel
theorem d_E_isShape_30 : decode c_E_isShape 30 = .ok (.ireturn, 1) := by decide +kernel
theorem d_E_isFew_0 : decode c_E_isFew 0 = .ok (.iconst 0, 1) := by decide +kernel
theorem d_E_isFew_1 : decode c_E_isFew 1 = .ok (.istore_n 1, 1) := by decide +kernel
theorem d_E_isFew_2 : decode c_E_isFew 2 = .ok (.iconst 0, 1) := by decide +kernel
theorem d_E_isFew_3 : decode c_E_isFew 3 = .ok (.istore_n 2, 1) := by decide +kernel
theorem d_E_isFew_4 : decode c_E_isFew 4 = .ok (.iload_n 2, 1) := by decide +kernel
theorem d_E_isFew_5 : decode c_E_isFew 5 = .ok (.aload_n 0, 1) := by decide +kernel
theorem d_E_isFew_6 : decode c_E_isFew 6 = .ok (.getfield 36, 3) := by decide +kernel
theorem d_E_isFew_9 : decode c_E_isFew 9 = .ok (.arraylength, 1) := by decide +kernel
theorem d_E_isFew_10 : decode c_E_isFew 10 = .ok (.if_icmp .ge 24, 3) := by decide +kernel
theorem d_E_isFew_13 : decode c_E_isFew 13 = .ok (.aload_n 0, 1) := by decide +kernel
theorem d_E_isFew_14 : decode c_E_isFew 14 = .ok (.getfield 36, 3) := by decide +kernel
theorem d_E_isFew_17 : decode c_E_isFew 17 = .ok (.iload_n 2, 1) := by decide +kernel
theorem d_E_isFew_18 : decode c_E_isFew 18 = .ok (.aaload, 1) := by decide +kernel
theorem d_E_isFew_19 : decode c_E_isFew 19 = .ok (.getfield 132, 3) := by decide +kernel
theorem d_E_isFew_22 : decode c_E_isFew 22 = .ok (.ifCond .eq 6, 3) := by decide +kernel
theorem d_E_isFew_25 : decode c_E_isFew 25 = .ok (.iinc 1 1, 3) := by decide +kernel
theorem d_E_isFew_28 : decode c_E_isFew 28 = .ok (.iinc 2 1, 3) := by decide +kernel
theorem d_E_isFew_31 : decode c_E_isFew 31 = .ok (.goto (-27), 3) := by decide +kernel
theorem d_E_isFew_34 : decode c_E_isFew 34 = .ok (.aload_n 0, 1) := by decide +kernel
theorem d_E_isFew_35 : decode c_E_isFew 35 = .ok (.iload_n 1, 1) := by decide +kernel
theorem d_E_isFew_36 : decode c_E_isFew 36 = .ok (.invokevirtual 212, 3) := by decide +kernel
theorem d_E_isFew_39 : decode c_E_isFew 39 = .ok (.ifCond .ne 7, 3) := by decide +kernel
theorem d_E_isFew_42 : decode c_E_isFew 42 = .ok (.iconst 1, 1) := by decide +kernel
theorem d_E_isFew_43 : decode c_E_isFew 43 = .ok (.goto 4, 3) := by decide +kernel
theorem d_E_isFew_46 : decode c_E_isFew 46 = .ok (.iconst 0, 1) := by decide +kernel
theorem d_E_isFew_47 : decode c_E_isFew 47 = .ok (.ireturn, 1) := by decide +kernel
theorem d_E_isQuorum_0 : decode c_E_isQuorum 0 = .ok (.iconst 2, 1) := by decide +kernel
theorem d_E_isQuorum_1 : decode c_E_isQuorum 1 = .ok (.iload_n 1, 1) := by decide +kernel
theorem d_E_isQuorum_2 : decode c_E_isQuorum 2 = .ok (.imul, 1) := by decide +kernel
theorem d_E_isQuorum_3 : decode c_E_isQuorum 3 = .ok (.aload_n 0, 1) := by decide +kernel
theorem d_E_isQuorum_4 : decode c_E_isQuorum 4 = .ok (.getfield 36, 3) := by decide +kernel
theorem d_E_isQuorum_7 : decode c_E_isQuorum 7 = .ok (.arraylength, 1) := by decide +kernel
theorem d_E_isQuorum_8 : decode c_E_isQuorum 8 = .ok (.if_icmp .le 7, 3) := by decide +kernel
theorem d_E_isQuorum_11 : decode c_E_isQuorum 11 = .ok (.iconst 1, 1) := by decide +kernel
theorem d_E_isQuorum_12 : decode c_E_isQuorum 12 = .ok (.goto 4, 3) := by decide +kernel
theorem d_E_isQuorum_15 : decode c_E_isQuorum 15 = .ok (.iconst 0, 1) := by decide +kernel
theorem d_E_isQuorum_16 : decode c_E_isQuorum 16 = .ok (.ireturn, 1) := by decide +kernel
theorem d_E_takeRows_0 : decode c_E_takeRows 0 = .ok (.aload_n 0, 1) := by decide +kernel
theorem d_E_takeRows_1 : decode c_E_takeRows 1 = .ok (.invokevirtual 135, 3) := by decide +kernel
theorem d_E_takeRows_4 : decode c_E_takeRows 4 = .ok (.iload_n 2, 1) := by decide +kernel
theorem d_E_takeRows_5 : decode c_E_takeRows 5 = .ok (.istore_n 3, 1) := by decide +kernel
theorem d_E_takeRows_6 : decode c_E_takeRows 6 = .ok (.iload_n 3, 1) := by decide +kernel
theorem d_E_takeRows_7 : decode c_E_takeRows 7 = .ok (.aload_n 1, 1) := by decide +kernel
theorem d_E_takeRows_8 : decode c_E_takeRows 8 = .ok (.getfield 105, 3) := by decide +kernel
theorem d_E_takeRows_11 : decode c_E_takeRows 11 = .ok (.if_icmp .ge 42, 3) := by decide +kernel
theorem d_E_takeRows_14 : decode c_E_takeRows 14 = .ok (.aload_n 0, 1) := by decide +kernel
theorem d_E_takeRows_15 : decode c_E_takeRows 15 = .ok (.aload_n 1, 1) := by decide +kernel
theorem d_E_takeRows_16 : decode c_E_takeRows 16 = .ok (.getfield 102, 3) := by decide +kernel
theorem d_E_takeRows_19 : decode c_E_takeRows 19 = .ok (.invokevirtual 253, 3) := by decide +kernel
theorem d_E_takeRows_22 : decode c_E_takeRows 22 = .ok (.istore 4, 2) := by decide +kernel
theorem d_E_takeRows_24 : decode c_E_takeRows 24 = .ok (.iload 4, 2) := by decide +kernel
theorem d_E_takeRows_26 : decode c_E_takeRows 26 = .ok (.ifCond .ne 5, 3) := by decide +kernel
theorem d_E_takeRows_29 : decode c_E_takeRows 29 = .ok (.iconst 0, 1) := by decide +kernel
theorem d_E_takeRows_30 : decode c_E_takeRows 30 = .ok (.ireturn, 1) := by decide +kernel
theorem d_E_takeRows_31 : decode c_E_takeRows 31 = .ok (.aload_n 0, 1) := by decide +kernel
theorem d_E_takeRows_32 : decode c_E_takeRows 32 = .ok (.iload 4, 2) := by decide +kernel
theorem d_E_takeRows_34 : decode c_E_takeRows 34 = .ok (.aload_n 1, 1) := by decide +kernel
theorem d_E_takeRows_35 : decode c_E_takeRows 35 = .ok (.getfield 125, 3) := by decide +kernel
theorem d_E_takeRows_38 : decode c_E_takeRows 38 = .ok (.iload_n 3, 1) := by decide +kernel
theorem d_E_takeRows_39 : decode c_E_takeRows 39 = .ok (.aload_n 1, 1) := by decide +kernel
theorem d_E_takeRows_40 : decode c_E_takeRows 40 = .ok (.getfield 102, 3) := by decide +kernel
theorem d_E_takeRows_43 : decode c_E_takeRows 43 = .ok (.imul, 1) := by decide +kernel
theorem d_E_takeRows_44 : decode c_E_takeRows 44 = .ok (.invokevirtual 256, 3) := by decide +kernel
theorem d_E_takeRows_47 : decode c_E_takeRows 47 = .ok (.iinc 3 1, 3) := by decide +kernel
theorem d_E_takeRows_50 : decode c_E_takeRows 50 = .ok (.goto (-44), 3) := by decide +kernel
theorem d_E_takeRows_53 : decode c_E_takeRows 53 = .ok (.iconst 1, 1) := by decide +kernel
theorem d_E_takeRows_54 : decode c_E_takeRows 54 = .ok (.ireturn, 1) := by decide +kernel
theorem d_E_markTaken_0 : decode c_E_markTaken 0 = .ok (.aload_n 0, 1) := by decide +kernel
theorem d_E_markTaken_1 : decode c_E_markTaken 1 = .ok (.getfield 43, 3) := by decide +kernel
theorem d_E_markTaken_4 : decode c_E_markTaken 4 = .ok (.iconst 0, 1) := by decide +kernel
theorem d_E_markTaken_5 : decode c_E_markTaken 5 = .ok (.invokestatic 238, 3) := by decide +kernel
theorem d_E_markTaken_8 : decode c_E_markTaken 8 = .ok (.iconst 0, 1) := by decide +kernel
theorem d_E_markTaken_9 : decode c_E_markTaken 9 = .ok (.istore_n 1, 1) := by decide +kernel
theorem d_E_markTaken_10 : decode c_E_markTaken 10 = .ok (.iload_n 1, 1) := by decide +kernel
theorem d_E_markTaken_11 : decode c_E_markTaken 11 = .ok (.iconst 4, 1) := by decide +kernel
theorem d_E_markTaken_12 : decode c_E_markTaken 12 = .ok (.if_icmp .ge 52, 3) := by decide +kernel
theorem d_E_markTaken_15 : decode c_E_markTaken 15 = .ok (.aload_n 0, 1) := by decide +kernel
theorem d_E_markTaken_16 : decode c_E_markTaken 16 = .ok (.getfield 47, 3) := by decide +kernel
theorem d_E_markTaken_19 : decode c_E_markTaken 19 = .ok (.getfield 75, 3) := by decide +kernel
theorem d_E_markTaken_22 : decode c_E_markTaken 22 = .ok (.iload_n 1, 1) := by decide +kernel
theorem d_E_markTaken_23 : decode c_E_markTaken 23 = .ok (.invokevirtual 98, 3) := by decide +kernel
theorem d_E_markTaken_26 : decode c_E_markTaken 26 = .ok (.astore_n 2, 1) := by decide +kernel
theorem d_E_markTaken_27 : decode c_E_markTaken 27 = .ok (.iconst 0, 1) := by decide +kernel
theorem d_E_markTaken_28 : decode c_E_markTaken 28 = .ok (.istore_n 3, 1) := by decide +kernel
theorem d_E_markTaken_29 : decode c_E_markTaken 29 = .ok (.aload_n 2, 1) := by decide +kernel
theorem d_E_markTaken_30 : decode c_E_markTaken 30 = .ok (.ifnull 28, 3) := by decide +kernel
theorem d_E_markTaken_33 : decode c_E_markTaken 33 = .ok (.iload_n 3, 1) := by decide +kernel
theorem d_E_markTaken_34 : decode c_E_markTaken 34 = .ok (.aload_n 2, 1) := by decide +kernel
theorem d_E_markTaken_35 : decode c_E_markTaken 35 = .ok (.getfield 125, 3) := by decide +kernel
theorem d_E_markTaken_38 : decode c_E_markTaken 38 = .ok (.arraylength, 1) := by decide +kernel
theorem d_E_markTaken_39 : decode c_E_markTaken 39 = .ok (.if_icmp .ge 19, 3) := by decide +kernel
theorem d_E_markTaken_42 : decode c_E_markTaken 42 = .ok (.aload_n 0, 1) := by decide +kernel
theorem d_E_markTaken_43 : decode c_E_markTaken 43 = .ok (.aload_n 2, 1) := by decide +kernel
theorem d_E_markTaken_44 : decode c_E_markTaken 44 = .ok (.getfield 125, 3) := by decide +kernel
theorem d_E_markTaken_47 : decode c_E_markTaken 47 = .ok (.iload_n 3, 1) := by decide +kernel
theorem d_E_markTaken_48 : decode c_E_markTaken 48 = .ok (.iaload, 1) := by decide +kernel
theorem d_E_markTaken_49 : decode c_E_markTaken 49 = .ok (.invokevirtual 244, 3) := by decide +kernel
theorem d_E_markTaken_52 : decode c_E_markTaken 52 = .ok (.iinc 3 1, 3) := by decide +kernel
theorem d_E_markTaken_55 : decode c_E_markTaken 55 = .ok (.goto (-26), 3) := by decide +kernel
theorem d_E_markTaken_58 : decode c_E_markTaken 58 = .ok (.iinc 1 1, 3) := by decide +kernel
theorem d_E_markTaken_61 : decode c_E_markTaken 61 = .ok (.goto (-51), 3) := by decide +kernel
theorem d_E_markTaken_64 : decode c_E_markTaken 64 = .ok (.aload_n 0, 1) := by decide +kernel
theorem d_E_markTaken_65 : decode c_E_markTaken 65 = .ok (.getfield 47, 3) := by decide +kernel
theorem d_E_markTaken_68 : decode c_E_markTaken 68 = .ok (.getfield 75, 3) := by decide +kernel
theorem d_E_markTaken_71 : decode c_E_markTaken 71 = .ok (.getfield 121, 3) := by decide +kernel
theorem d_E_markTaken_74 : decode c_E_markTaken 74 = .ok (.ifnull 20, 3) := by decide +kernel
theorem d_E_markTaken_77 : decode c_E_markTaken 77 = .ok (.aload_n 0, 1) := by decide +kernel
theorem d_E_markTaken_78 : decode c_E_markTaken 78 = .ok (.aload_n 0, 1) := by decide +kernel
theorem d_E_markTaken_79 : decode c_E_markTaken 79 = .ok (.getfield 47, 3) := by decide +kernel
theorem d_E_markTaken_82 : decode c_E_markTaken 82 = .ok (.getfield 75, 3) := by decide +kernel
theorem d_E_markTaken_85 : decode c_E_markTaken 85 = .ok (.getfield 121, 3) := by decide +kernel
theorem d_E_markTaken_88 : decode c_E_markTaken 88 = .ok (.getfield 154, 3) := by decide +kernel
theorem d_E_markTaken_91 : decode c_E_markTaken 91 = .ok (.invokevirtual 244, 3) := by decide +kernel
theorem d_E_markTaken_94 : decode c_E_markTaken 94 = .ok (.return_, 1) := by decide +kernel
theorem d_E_take_0 : decode c_E_take 0 = .ok (.aload_n 0, 1) := by decide +kernel
theorem d_E_take_1 : decode c_E_take 1 = .ok (.getfield 43, 3) := by decide +kernel
theorem d_E_take_4 : decode c_E_take 4 = .ok (.iload_n 1, 1) := by decide +kernel
theorem d_E_take_5 : decode c_E_take 5 = .ok (.bipush 16, 2) := by decide +kernel
theorem d_E_take_7 : decode c_E_take 7 = .ok (.idiv, 1) := by decide +kernel
theorem d_E_take_8 : decode c_E_take 8 = .ok (.dup2, 1) := by decide +kernel
theorem d_E_take_9 : decode c_E_take 9 = .ok (.iaload, 1) := by decide +kernel
theorem d_E_take_10 : decode c_E_take 10 = .ok (.iconst 1, 1) := by decide +kernel
theorem d_E_take_11 : decode c_E_take 11 = .ok (.iload_n 1, 1) := by decide +kernel
theorem d_E_take_12 : decode c_E_take 12 = .ok (.bipush 16, 2) := by decide +kernel
theorem d_E_take_14 : decode c_E_take 14 = .ok (.irem, 1) := by decide +kernel
theorem d_E_take_15 : decode c_E_take 15 = .ok (.ishl, 1) := by decide +kernel
theorem d_E_take_16 : decode c_E_take 16 = .ok (.ior, 1) := by decide +kernel
theorem d_E_take_17 : decode c_E_take 17 = .ok (.iastore, 1) := by decide +kernel
theorem d_E_take_18 : decode c_E_take 18 = .ok (.return_, 1) := by decide +kernel
theorem d_E_pickDisks_0 : decode c_E_pickDisks 0 = .ok (.iconst 0, 1) := by decide +kernel
theorem d_E_pickDisks_1 : decode c_E_pickDisks 1 = .ok (.istore_n 2, 1) := by decide +kernel
theorem d_E_pickDisks_2 : decode c_E_pickDisks 2 = .ok (.iconst 0, 1) := by decide +kernel
theorem d_E_pickDisks_3 : decode c_E_pickDisks 3 = .ok (.istore_n 3, 1) := by decide +kernel
theorem d_E_pickDisks_4 : decode c_E_pickDisks 4 = .ok (.iload_n 3, 1) := by decide +kernel
theorem d_E_pickDisks_5 : decode c_E_pickDisks 5 = .ok (.iload_n 1, 1) := by decide +kernel
theorem d_E_pickDisks_6 : decode c_E_pickDisks 6 = .ok (.if_icmp .ge 31, 3) := by decide +kernel
theorem d_E_pickDisks_9 : decode c_E_pickDisks 9 = .ok (.aload_n 0, 1) := by decide +kernel
theorem d_E_pickDisks_10 : decode c_E_pickDisks 10 = .ok (.iload_n 2, 1) := by decide +kernel
theorem d_E_pickDisks_11 : decode c_E_pickDisks 11 = .ok (.invokevirtual 260, 3) := by decide +kernel
theorem d_E_pickDisks_14 : decode c_E_pickDisks 14 = .ok (.istore 4, 2) := by decide +kernel
theorem d_E_pickDisks_16 : decode c_E_pickDisks 16 = .ok (.iload 4, 2) := by decide +kernel
theorem d_E_pickDisks_18 : decode c_E_pickDisks 18 = .ok (.iconst (-1), 1) := by decide +kernel
theorem d_E_pickDisks_19 : decode c_E_pickDisks 19 = .ok (.if_icmp .ne 5, 3) := by decide +kernel
theorem d_E_pickDisks_22 : decode c_E_pickDisks 22 = .ok (.iconst 0, 1) := by decide +kernel
theorem d_E_pickDisks_23 : decode c_E_pickDisks 23 = .ok (.ireturn, 1) := by decide +kernel
theorem d_E_pickDisks_24 : decode c_E_pickDisks 24 = .ok (.iload_n 2, 1) := by decide +kernel
theorem d_E_pickDisks_25 : decode c_E_pickDisks 25 = .ok (.iconst 1, 1) := by decide +kernel
theorem d_E_pickDisks_26 : decode c_E_pickDisks 26 = .ok (.iload 4, 2) := by decide +kernel
theorem d_E_pickDisks_28 : decode c_E_pickDisks 28 = .ok (.ishl, 1) := by decide +kernel
theorem d_E_pickDisks_29 : decode c_E_pickDisks 29 = .ok (.ior, 1) := by decide +kernel
theorem d_E_pickDisks_30 : decode c_E_pickDisks 30 = .ok (.istore_n 2, 1) := by decide +kernel
theorem d_E_pickDisks_31 : decode c_E_pickDisks 31 = .ok (.iinc 3 1, 3) := by decide +kernel
theorem d_E_pickDisks_34 : decode c_E_pickDisks 34 = .ok (.goto (-30), 3) := by decide +kernel
theorem d_E_pickDisks_37 : decode c_E_pickDisks 37 = .ok (.iload_n 2, 1) := by decide +kernel
theorem d_E_pickDisks_38 : decode c_E_pickDisks 38 = .ok (.ireturn, 1) := by decide +kernel
theorem d_E_roomiest_0 : decode c_E_roomiest 0 = .ok (.iconst (-1), 1) := by decide +kernel
theorem d_E_roomiest_1 : decode c_E_roomiest 1 = .ok (.istore_n 2, 1) := by decide +kernel
theorem d_E_roomiest_2 : decode c_E_roomiest 2 = .ok (.iconst 0, 1) := by decide +kernel
theorem d_E_roomiest_3 : decode c_E_roomiest 3 = .ok (.istore_n 3, 1) := by decide +kernel
theorem d_E_roomiest_4 : decode c_E_roomiest 4 = .ok (.iconst 0, 1) := by decide +kernel
theorem d_E_roomiest_5 : decode c_E_roomiest 5 = .ok (.istore 4, 2) := by decide +kernel
theorem d_E_roomiest_7 : decode c_E_roomiest 7 = .ok (.iload 4, 2) := by decide +kernel
theorem d_E_roomiest_9 : decode c_E_roomiest 9 = .ok (.aload_n 0, 1) := by decide +kernel
theorem d_E_roomiest_10 : decode c_E_roomiest 10 = .ok (.getfield 36, 3) := by decide +kernel
theorem d_E_roomiest_13 : decode c_E_roomiest 13 = .ok (.arraylength, 1) := by decide +kernel
theorem d_E_roomiest_14 : decode c_E_roomiest 14 = .ok (.if_icmp .ge 63, 3) := by decide +kernel
theorem d_E_roomiest_17 : decode c_E_roomiest 17 = .ok (.aload_n 0, 1) := by decide +kernel
theorem d_E_roomiest_18 : decode c_E_roomiest 18 = .ok (.getfield 36, 3) := by decide +kernel
theorem d_E_roomiest_21 : decode c_E_roomiest 21 = .ok (.iload 4, 2) := by decide +kernel
theorem d_E_roomiest_23 : decode c_E_roomiest 23 = .ok (.aaload, 1) := by decide +kernel
theorem d_E_roomiest_24 : decode c_E_roomiest 24 = .ok (.getfield 132, 3) := by decide +kernel
theorem d_E_roomiest_27 : decode c_E_roomiest 27 = .ok (.ifCond .eq 16, 3) := by decide +kernel
theorem d_E_roomiest_30 : decode c_E_roomiest 30 = .ok (.iload_n 1, 1) := by decide +kernel
theorem d_E_roomiest_31 : decode c_E_roomiest 31 = .ok (.iconst 1, 1) := by decide +kernel
theorem d_E_roomiest_32 : decode c_E_roomiest 32 = .ok (.iload 4, 2) := by decide +kernel
theorem d_E_roomiest_34 : decode c_E_roomiest 34 = .ok (.ishl, 1) := by decide +kernel
theorem d_E_roomiest_35 : decode c_E_roomiest 35 = .ok (.iand, 1) := by decide +kernel
theorem d_E_roomiest_36 : decode c_E_roomiest 36 = .ok (.ifCond .ne 7, 3) := by decide +kernel
theorem d_E_roomiest_39 : decode c_E_roomiest 39 = .ok (.iconst 1, 1) := by decide +kernel
theorem d_E_roomiest_40 : decode c_E_roomiest 40 = .ok (.goto 4, 3) := by decide +kernel
theorem d_E_roomiest_43 : decode c_E_roomiest 43 = .ok (.iconst 0, 1) := by decide +kernel
theorem d_E_roomiest_44 : decode c_E_roomiest 44 = .ok (.istore 5, 2) := by decide +kernel
theorem d_E_roomiest_46 : decode c_E_roomiest 46 = .ok (.iload 5, 2) := by decide +kernel
theorem d_E_roomiest_48 : decode c_E_roomiest 48 = .ok (.ifCond .eq 23, 3) := by decide +kernel
theorem d_E_roomiest_51 : decode c_E_roomiest 51 = .ok (.aload_n 0, 1) := by decide +kernel
theorem d_E_roomiest_52 : decode c_E_roomiest 52 = .ok (.iload 4, 2) := by decide +kernel
theorem d_E_roomiest_54 : decode c_E_roomiest 54 = .ok (.invokevirtual 195, 3) := by decide +kernel
theorem d_E_roomiest_57 : decode c_E_roomiest 57 = .ok (.iload_n 3, 1) := by decide +kernel
theorem d_E_roomiest_58 : decode c_E_roomiest 58 = .ok (.if_icmp .le 13, 3) := by decide +kernel
theorem d_E_roomiest_61 : decode c_E_roomiest 61 = .ok (.iload 4, 2) := by decide +kernel
theorem d_E_roomiest_63 : decode c_E_roomiest 63 = .ok (.istore_n 2, 1) := by decide +kernel
theorem d_E_roomiest_64 : decode c_E_roomiest 64 = .ok (.aload_n 0, 1) := by decide +kernel
theorem d_E_roomiest_65 : decode c_E_roomiest 65 = .ok (.iload 4, 2) := by decide +kernel
theorem d_E_roomiest_67 : decode c_E_roomiest 67 = .ok (.invokevirtual 195, 3) := by decide +kernel
theorem d_E_roomiest_70 : decode c_E_roomiest 70 = .ok (.istore_n 3, 1) := by decide +kernel
theorem d_E_roomiest_71 : decode c_E_roomiest 71 = .ok (.iinc 4 1, 3) := by decide +kernel
theorem d_E_roomiest_74 : decode c_E_roomiest 74 = .ok (.goto (-67), 3) := by decide +kernel
theorem d_E_roomiest_77 : decode c_E_roomiest 77 = .ok (.iload_n 2, 1) := by decide +kernel
theorem d_E_roomiest_78 : decode c_E_roomiest 78 = .ok (.ireturn, 1) := by decide +kernel
theorem d_E_freeCount_0 : decode c_E_freeCount 0 = .ok (.aload_n 0, 1) := by decide +kernel
theorem d_E_freeCount_1 : decode c_E_freeCount 1 = .ok (.getfield 16, 3) := by decide +kernel
theorem d_E_freeCount_4 : decode c_E_freeCount 4 = .ok (.aload_n 0, 1) := by decide +kernel
theorem d_E_freeCount_5 : decode c_E_freeCount 5 = .ok (.getfield 43, 3) := by decide +kernel
theorem d_E_freeCount_8 : decode c_E_freeCount 8 = .ok (.iload_n 1, 1) := by decide +kernel
theorem d_E_freeCount_9 : decode c_E_freeCount 9 = .ok (.iaload, 1) := by decide +kernel
theorem d_E_freeCount_10 : decode c_E_freeCount 10 = .ok (.invokestatic 248, 3) := by decide +kernel
theorem d_E_freeCount_13 : decode c_E_freeCount 13 = .ok (.isub, 1) := by decide +kernel
theorem d_E_freeCount_14 : decode c_E_freeCount 14 = .ok (.ireturn, 1) := by decide +kernel
theorem d_E_takeRow_0 : decode c_E_takeRow 0 = .ok (.iload_n 3, 1) := by decide +kernel
theorem d_E_takeRow_1 : decode c_E_takeRow 1 = .ok (.istore 4, 2) := by decide +kernel
theorem d_E_takeRow_3 : decode c_E_takeRow 3 = .ok (.iconst 0, 1) := by decide +kernel
theorem d_E_takeRow_4 : decode c_E_takeRow 4 = .ok (.istore 5, 2) := by decide +kernel
theorem d_E_takeRow_6 : decode c_E_takeRow 6 = .ok (.iload 5, 2) := by decide +kernel
theorem d_E_takeRow_8 : decode c_E_takeRow 8 = .ok (.aload_n 0, 1) := by decide +kernel
theorem d_E_takeRow_9 : decode c_E_takeRow 9 = .ok (.getfield 36, 3) := by decide +kernel
theorem d_E_takeRow_12 : decode c_E_takeRow 12 = .ok (.arraylength, 1) := by decide +kernel
theorem d_E_takeRow_13 : decode c_E_takeRow 13 = .ok (.if_icmp .ge 46, 3) := by decide +kernel
theorem d_E_takeRow_16 : decode c_E_takeRow 16 = .ok (.iload 4, 2) := by decide +kernel
theorem d_E_takeRow_18 : decode c_E_takeRow 18 = .ok (.aload_n 2, 1) := by decide +kernel
theorem d_E_takeRow_19 : decode c_E_takeRow 19 = .ok (.arraylength, 1) := by decide +kernel
theorem d_E_takeRow_20 : decode c_E_takeRow 20 = .ok (.if_icmp .ge 39, 3) := by decide +kernel
theorem d_E_takeRow_23 : decode c_E_takeRow 23 = .ok (.iload_n 1, 1) := by decide +kernel
theorem d_E_takeRow_24 : decode c_E_takeRow 24 = .ok (.iconst 1, 1) := by decide +kernel
theorem d_E_takeRow_25 : decode c_E_takeRow 25 = .ok (.iload 5, 2) := by decide +kernel
theorem d_E_takeRow_27 : decode c_E_takeRow 27 = .ok (.ishl, 1) := by decide +kernel
theorem d_E_takeRow_28 : decode c_E_takeRow 28 = .ok (.iand, 1) := by decide +kernel
theorem d_E_takeRow_29 : decode c_E_takeRow 29 = .ok (.ifCond .eq 24, 3) := by decide +kernel
theorem d_E_takeRow_32 : decode c_E_takeRow 32 = .ok (.aload_n 2, 1) := by decide +kernel
theorem d_E_takeRow_33 : decode c_E_takeRow 33 = .ok (.iload 4, 2) := by decide +kernel
theorem d_E_takeRow_35 : decode c_E_takeRow 35 = .ok (.aload_n 0, 1) := by decide +kernel
theorem d_E_takeRow_36 : decode c_E_takeRow 36 = .ok (.iload 5, 2) := by decide +kernel
theorem d_E_takeRow_38 : decode c_E_takeRow 38 = .ok (.invokevirtual 138, 3) := by decide +kernel
theorem d_E_takeRow_41 : decode c_E_takeRow 41 = .ok (.iastore, 1) := by decide +kernel
theorem d_E_takeRow_42 : decode c_E_takeRow 42 = .ok (.aload_n 0, 1) := by decide +kernel
theorem d_E_takeRow_43 : decode c_E_takeRow 43 = .ok (.aload_n 2, 1) := by decide +kernel
theorem d_E_takeRow_44 : decode c_E_takeRow 44 = .ok (.iload 4, 2) := by decide +kernel
theorem d_E_takeRow_46 : decode c_E_takeRow 46 = .ok (.iaload, 1) := by decide +kernel
theorem d_E_takeRow_47 : decode c_E_takeRow 47 = .ok (.invokevirtual 244, 3) := by decide +kernel
theorem d_E_takeRow_50 : decode c_E_takeRow 50 = .ok (.iinc 4 1, 3) := by decide +kernel
theorem d_E_takeRow_53 : decode c_E_takeRow 53 = .ok (.iinc 5 1, 3) := by decide +kernel
theorem d_E_takeRow_56 : decode c_E_takeRow 56 = .ok (.goto (-50), 3) := by decide +kernel
theorem d_E_takeRow_59 : decode c_E_takeRow 59 = .ok (.return_, 1) := by decide +kernel
theorem d_E_leastFree_0 : decode c_E_leastFree 0 = .ok (.iconst 0, 1) := by decide +kernel
theorem d_E_leastFree_1 : decode c_E_leastFree 1 = .ok (.istore_n 2, 1) := by decide +kernel
theorem d_E_leastFree_2 : decode c_E_leastFree 2 = .ok (.iload_n 2, 1) := by decide +kernel
theorem d_E_leastFree_3 : decode c_E_leastFree 3 = .ok (.aload_n 0, 1) := by decide +kernel
theorem d_E_leastFree_4 : decode c_E_leastFree 4 = .ok (.getfield 16, 3) := by decide +kernel
theorem d_E_leastFree_7 : decode c_E_leastFree 7 = .ok (.if_icmp .ge 29, 3) := by decide +kernel
theorem d_E_leastFree_10 : decode c_E_leastFree 10 = .ok (.aload_n 0, 1) := by decide +kernel
theorem d_E_leastFree_11 : decode c_E_leastFree 11 = .ok (.getfield 43, 3) := by decide +kernel
theorem d_E_leastFree_14 : decode c_E_leastFree 14 = .ok (.iload_n 1, 1) := by decide +kernel
theorem d_E_leastFree_15 : decode c_E_leastFree 15 = .ok (.iaload, 1) := by decide +kernel
theorem d_E_leastFree_16 : decode c_E_leastFree 16 = .ok (.iconst 1, 1) := by decide +kernel
theorem d_E_leastFree_17 : decode c_E_leastFree 17 = .ok (.iload_n 2, 1) := by decide +kernel
theorem d_E_leastFree_18 : decode c_E_leastFree 18 = .ok (.ishl, 1) := by decide +kernel
theorem d_E_leastFree_19 : decode c_E_leastFree 19 = .ok (.iand, 1) := by decide +kernel
theorem d_E_leastFree_20 : decode c_E_leastFree 20 = .ok (.ifCond .ne 10, 3) := by decide +kernel
theorem d_E_leastFree_23 : decode c_E_leastFree 23 = .ok (.bipush 16, 2) := by decide +kernel
theorem d_E_leastFree_25 : decode c_E_leastFree 25 = .ok (.iload_n 1, 1) := by decide +kernel
theorem d_E_leastFree_26 : decode c_E_leastFree 26 = .ok (.imul, 1) := by decide +kernel
theorem d_E_leastFree_27 : decode c_E_leastFree 27 = .ok (.iload_n 2, 1) := by decide +kernel
theorem d_E_leastFree_28 : decode c_E_leastFree 28 = .ok (.iadd, 1) := by decide +kernel
theorem d_E_leastFree_29 : decode c_E_leastFree 29 = .ok (.ireturn, 1) := by decide +kernel
theorem d_E_leastFree_30 : decode c_E_leastFree 30 = .ok (.iinc 2 1, 3) := by decide +kernel
theorem d_E_leastFree_33 : decode c_E_leastFree 33 = .ok (.goto (-31), 3) := by decide +kernel
theorem d_E_leastFree_36 : decode c_E_leastFree 36 = .ok (.iconst (-1), 1) := by decide +kernel
theorem d_E_leastFree_37 : decode c_E_leastFree 37 = .ok (.ireturn, 1) := by decide +kernel
theorem d_E_commit_0 : decode c_E_commit 0 = .ok (.aload_n 0, 1) := by decide +kernel
theorem d_E_commit_1 : decode c_E_commit 1 = .ok (.dup, 1) := by decide +kernel
theorem d_E_commit_2 : decode c_E_commit 2 = .ok (.getfield 57, 3) := by decide +kernel
theorem d_E_commit_5 : decode c_E_commit 5 = .ok (.iconst 1, 1) := by decide +kernel
theorem d_E_commit_6 : decode c_E_commit 6 = .ok (.iadd, 1) := by decide +kernel
theorem d_E_commit_7 : decode c_E_commit 7 = .ok (.putfield 57, 3) := by decide +kernel
theorem d_E_commit_10 : decode c_E_commit 10 = .ok (.new 22, 3) := by decide +kernel
theorem d_E_commit_13 : decode c_E_commit 13 = .ok (.dup, 1) := by decide +kernel
theorem d_E_commit_14 : decode c_E_commit 14 = .ok (.aload_n 0, 1) := by decide +kernel
theorem d_E_commit_15 : decode c_E_commit 15 = .ok (.getfield 47, 3) := by decide +kernel
theorem d_E_commit_18 : decode c_E_commit 18 = .ok (.getfield 192, 3) := by decide +kernel
theorem d_E_commit_21 : decode c_E_commit 21 = .ok (.iconst 1, 1) := by decide +kernel
theorem d_E_commit_22 : decode c_E_commit 22 = .ok (.iadd, 1) := by decide +kernel
theorem d_E_commit_23 : decode c_E_commit 23 = .ok (.aload_n 0, 1) := by decide +kernel
theorem d_E_commit_24 : decode c_E_commit 24 = .ok (.getfield 57, 3) := by decide +kernel
theorem d_E_commit_27 : decode c_E_commit 27 = .ok (.aload_n 1, 1) := by decide +kernel
theorem d_E_commit_28 : decode c_E_commit 28 = .ok (.invokespecial 31, 3) := by decide +kernel
theorem d_E_commit_31 : decode c_E_commit 31 = .ok (.astore_n 2, 1) := by decide +kernel
theorem d_E_commit_32 : decode c_E_commit 32 = .ok (.iconst 0, 1) := by decide +kernel
theorem d_E_commit_33 : decode c_E_commit 33 = .ok (.istore_n 3, 1) := by decide +kernel
theorem d_E_commit_34 : decode c_E_commit 34 = .ok (.iload_n 3, 1) := by decide +kernel
theorem d_E_commit_35 : decode c_E_commit 35 = .ok (.aload_n 0, 1) := by decide +kernel
theorem d_E_commit_36 : decode c_E_commit 36 = .ok (.getfield 36, 3) := by decide +kernel
theorem d_E_commit_39 : decode c_E_commit 39 = .ok (.arraylength, 1) := by decide +kernel
theorem d_E_commit_40 : decode c_E_commit 40 = .ok (.if_icmp .ge 46, 3) := by decide +kernel
theorem d_E_commit_43 : decode c_E_commit 43 = .ok (.aload_n 0, 1) := by decide +kernel
theorem d_E_commit_44 : decode c_E_commit 44 = .ok (.getfield 36, 3) := by decide +kernel
theorem d_E_commit_47 : decode c_E_commit 47 = .ok (.iload_n 3, 1) := by decide +kernel
theorem d_E_commit_48 : decode c_E_commit 48 = .ok (.aaload, 1) := by decide +kernel
theorem d_E_commit_49 : decode c_E_commit 49 = .ok (.astore 4, 2) := by decide +kernel
theorem d_E_commit_51 : decode c_E_commit 51 = .ok (.aload 4, 2) := by decide +kernel
theorem d_E_commit_53 : decode c_E_commit 53 = .ok (.getfield 132, 3) := by decide +kernel
theorem d_E_commit_56 : decode c_E_commit 56 = .ok (.ifCond .eq 24, 3) := by decide +kernel
theorem d_E_commit_59 : decode c_E_commit 59 = .ok (.aload_n 0, 1) := by decide +kernel
theorem d_E_commit_60 : decode c_E_commit 60 = .ok (.aload 4, 2) := by decide +kernel
theorem d_E_commit_62 : decode c_E_commit 62 = .ok (.aload 4, 2) := by decide +kernel
theorem d_E_commit_64 : decode c_E_commit 64 = .ok (.aload_n 0, 1) := by decide +kernel
theorem d_E_commit_65 : decode c_E_commit 65 = .ok (.getfield 47, 3) := by decide +kernel
theorem d_E_commit_68 : decode c_E_commit 68 = .ok (.invokevirtual 224, 3) := by decide +kernel
theorem d_E_commit_71 : decode c_E_commit 71 = .ok (.aload_n 2, 1) := by decide +kernel
theorem d_E_commit_72 : decode c_E_commit 72 = .ok (.invokevirtual 228, 3) := by decide +kernel
theorem d_E_commit_75 : decode c_E_commit 75 = .ok (.ifCond .ne 5, 3) := by decide +kernel
theorem d_E_commit_78 : decode c_E_commit 78 = .ok (.iconst 0, 1) := by decide +kernel
theorem d_E_commit_79 : decode c_E_commit 79 = .ok (.ireturn, 1) := by decide +kernel
theorem d_E_commit_80 : decode c_E_commit 80 = .ok (.iinc 3 1, 3) := by decide +kernel
theorem d_E_commit_83 : decode c_E_commit 83 = .ok (.goto (-49), 3) := by decide +kernel
theorem d_E_commit_86 : decode c_E_commit 86 = .ok (.aload_n 0, 1) := by decide +kernel
theorem d_E_commit_87 : decode c_E_commit 87 = .ok (.aload_n 2, 1) := by decide +kernel
theorem d_E_commit_88 : decode c_E_commit 88 = .ok (.putfield 47, 3) := by decide +kernel
theorem d_E_commit_91 : decode c_E_commit 91 = .ok (.iconst 1, 1) := by decide +kernel
theorem d_E_commit_92 : decode c_E_commit 92 = .ok (.ireturn, 1) := by decide +kernel
theorem d_E_putCopy_0 : decode c_E_putCopy 0 = .ok (.aload_n 0, 1) := by decide +kernel
theorem d_E_putCopy_1 : decode c_E_putCopy 1 = .ok (.invokevirtual 218, 3) := by decide +kernel
theorem d_E_putCopy_4 : decode c_E_putCopy 4 = .ok (.istore 4, 2) := by decide +kernel
theorem d_E_putCopy_6 : decode c_E_putCopy 6 = .ok (.aload_n 1, 1) := by decide +kernel
theorem d_E_putCopy_7 : decode c_E_putCopy 7 = .ok (.getfield 208, 3) := by decide +kernel
theorem d_E_putCopy_10 : decode c_E_putCopy 10 = .ok (.iload_n 2, 1) := by decide +kernel
theorem d_E_putCopy_11 : decode c_E_putCopy 11 = .ok (.iload 4, 2) := by decide +kernel
theorem d_E_putCopy_13 : decode c_E_putCopy 13 = .ok (.ifCond .eq 7, 3) := by decide +kernel
theorem d_E_putCopy_16 : decode c_E_putCopy 16 = .ok (.aload_n 3, 1) := by decide +kernel
theorem d_E_putCopy_17 : decode c_E_putCopy 17 = .ok (.goto 4, 3) := by decide +kernel
theorem d_E_putCopy_20 : decode c_E_putCopy 20 = .ok (.aconst_null, 1) := by decide +kernel
theorem d_E_putCopy_21 : decode c_E_putCopy 21 = .ok (.aastore, 1) := by decide +kernel
theorem d_E_putCopy_22 : decode c_E_putCopy 22 = .ok (.aload_n 1, 1) := by decide +kernel
theorem d_E_putCopy_23 : decode c_E_putCopy 23 = .ok (.getfield 204, 3) := by decide +kernel
theorem d_E_putCopy_26 : decode c_E_putCopy 26 = .ok (.iload_n 2, 1) := by decide +kernel
theorem d_E_putCopy_27 : decode c_E_putCopy 27 = .ok (.iload 4, 2) := by decide +kernel
theorem d_E_putCopy_29 : decode c_E_putCopy 29 = .ok (.ifCond .ne 7, 3) := by decide +kernel
theorem d_E_putCopy_32 : decode c_E_putCopy 32 = .ok (.iconst 1, 1) := by decide +kernel
theorem d_E_putCopy_33 : decode c_E_putCopy 33 = .ok (.goto 4, 3) := by decide +kernel
theorem d_E_putCopy_36 : decode c_E_putCopy 36 = .ok (.iconst 0, 1) := by decide +kernel
theorem d_E_putCopy_37 : decode c_E_putCopy 37 = .ok (.bastore, 1) := by decide +kernel
theorem d_E_putCopy_38 : decode c_E_putCopy 38 = .ok (.aload_n 1, 1) := by decide +kernel
theorem d_E_putCopy_39 : decode c_E_putCopy 39 = .ok (.aload_n 1, 1) := by decide +kernel
theorem d_E_putCopy_40 : decode c_E_putCopy 40 = .ok (.getfield 221, 3) := by decide +kernel
theorem d_E_putCopy_43 : decode c_E_putCopy 43 = .ok (.iconst 1, 1) := by decide +kernel
theorem d_E_putCopy_44 : decode c_E_putCopy 44 = .ok (.iadd, 1) := by decide +kernel
theorem d_E_putCopy_45 : decode c_E_putCopy 45 = .ok (.iconst 3, 1) := by decide +kernel
theorem d_E_putCopy_46 : decode c_E_putCopy 46 = .ok (.irem, 1) := by decide +kernel
theorem d_E_putCopy_47 : decode c_E_putCopy 47 = .ok (.putfield 221, 3) := by decide +kernel
theorem d_E_putCopy_50 : decode c_E_putCopy 50 = .ok (.iload 4, 2) := by decide +kernel
theorem d_E_putCopy_52 : decode c_E_putCopy 52 = .ok (.ireturn, 1) := by decide +kernel
theorem d_E_mayAct_0 : decode c_E_mayAct 0 = .ok (.aload_n 0, 1) := by decide +kernel
theorem d_E_mayAct_1 : decode c_E_mayAct 1 = .ok (.getfield 64, 3) := by decide +kernel
theorem d_E_mayAct_4 : decode c_E_mayAct 4 = .ok (.ifCond .ne 9, 3) := by decide +kernel
theorem d_E_mayAct_7 : decode c_E_mayAct 7 = .ok (.aload_n 0, 1) := by decide +kernel
theorem d_E_mayAct_8 : decode c_E_mayAct 8 = .ok (.invokevirtual 181, 3) := by decide +kernel
theorem d_E_mayAct_11 : decode c_E_mayAct 11 = .ok (.iconst 0, 1) := by decide +kernel
theorem d_E_mayAct_12 : decode c_E_mayAct 12 = .ok (.ireturn, 1) := by decide +kernel
theorem d_E_mayAct_13 : decode c_E_mayAct 13 = .ok (.aload_n 0, 1) := by decide +kernel
theorem d_E_mayAct_14 : decode c_E_mayAct 14 = .ok (.getfield 64, 3) := by decide +kernel
theorem d_E_mayAct_17 : decode c_E_mayAct 17 = .ok (.ifCond .le 13, 3) := by decide +kernel
theorem d_E_mayAct_20 : decode c_E_mayAct 20 = .ok (.aload_n 0, 1) := by decide +kernel
theorem d_E_mayAct_21 : decode c_E_mayAct 21 = .ok (.dup, 1) := by decide +kernel
theorem d_E_mayAct_22 : decode c_E_mayAct 22 = .ok (.getfield 64, 3) := by decide +kernel
theorem d_E_mayAct_25 : decode c_E_mayAct 25 = .ok (.iconst 1, 1) := by decide +kernel
theorem d_E_mayAct_26 : decode c_E_mayAct 26 = .ok (.isub, 1) := by decide +kernel
theorem d_E_mayAct_27 : decode c_E_mayAct 27 = .ok (.putfield 64, 3) := by decide +kernel
theorem d_E_mayAct_30 : decode c_E_mayAct 30 = .ok (.iconst 1, 1) := by decide +kernel
theorem d_E_mayAct_31 : decode c_E_mayAct 31 = .ok (.ireturn, 1) := by decide +kernel
theorem d_E_goDown_0 : decode c_E_goDown 0 = .ok (.aload_n 0, 1) := by decide +kernel
theorem d_E_goDown_1 : decode c_E_goDown 1 = .ok (.iconst 0, 1) := by decide +kernel
theorem d_E_goDown_2 : decode c_E_goDown 2 = .ok (.putfield 60, 3) := by decide +kernel
theorem d_E_goDown_5 : decode c_E_goDown 5 = .ok (.aload_n 0, 1) := by decide +kernel
theorem d_E_goDown_6 : decode c_E_goDown 6 = .ok (.iconst (-1), 1) := by decide +kernel
theorem d_E_goDown_7 : decode c_E_goDown 7 = .ok (.putfield 64, 3) := by decide +kernel
theorem d_E_goDown_10 : decode c_E_goDown 10 = .ok (.return_, 1) := by decide +kernel
theorem d_E_extend_0 : decode c_E_extend 0 = .ok (.aload_n 0, 1) := by decide +kernel
theorem d_E_extend_1 : decode c_E_extend 1 = .ok (.getfield 60, 3) := by decide +kernel
theorem d_E_extend_4 : decode c_E_extend 4 = .ok (.ifCond .ne 6, 3) := by decide +kernel
theorem d_E_extend_7 : decode c_E_extend 7 = .ok (.bipush (-2), 2) := by decide +kernel
theorem d_E_extend_9 : decode c_E_extend 9 = .ok (.ireturn, 1) := by decide +kernel
theorem d_E_extend_10 : decode c_E_extend 10 = .ok (.aload_n 0, 1) := by decide +kernel
theorem d_E_extend_11 : decode c_E_extend 11 = .ok (.getfield 47, 3) := by decide +kernel
theorem d_E_extend_14 : decode c_E_extend 14 = .ok (.getfield 75, 3) := by decide +kernel
theorem d_E_extend_17 : decode c_E_extend 17 = .ok (.iload_n 1, 1) := by decide +kernel
theorem d_E_extend_18 : decode c_E_extend 18 = .ok (.invokevirtual 98, 3) := by decide +kernel
theorem d_E_extend_21 : decode c_E_extend 21 = .ok (.astore_n 3, 1) := by decide +kernel
theorem d_E_extend_22 : decode c_E_extend 22 = .ok (.aload_n 3, 1) := by decide +kernel
theorem d_E_extend_23 : decode c_E_extend 23 = .ok (.ifnull 24, 3) := by decide +kernel
theorem d_E_extend_26 : decode c_E_extend 26 = .ok (.iload_n 2, 1) := by decide +kernel
theorem d_E_extend_27 : decode c_E_extend 27 = .ok (.iconst 1, 1) := by decide +kernel
theorem d_E_extend_28 : decode c_E_extend 28 = .ok (.if_icmp .lt 19, 3) := by decide +kernel
theorem d_E_extend_31 : decode c_E_extend 31 = .ok (.iload_n 2, 1) := by decide +kernel
theorem d_E_extend_32 : decode c_E_extend 32 = .ok (.bipush 12, 2) := by decide +kernel
theorem d_E_extend_34 : decode c_E_extend 34 = .ok (.aload_n 3, 1) := by decide +kernel
theorem d_E_extend_35 : decode c_E_extend 35 = .ok (.getfield 102, 3) := by decide +kernel
theorem d_E_extend_38 : decode c_E_extend 38 = .ok (.idiv, 1) := by decide +kernel
theorem d_E_extend_39 : decode c_E_extend 39 = .ok (.aload_n 3, 1) := by decide +kernel
theorem d_E_extend_40 : decode c_E_extend 40 = .ok (.getfield 105, 3) := by decide +kernel
theorem d_E_extend_43 : decode c_E_extend 43 = .ok (.isub, 1) := by decide +kernel
theorem d_E_extend_44 : decode c_E_extend 44 = .ok (.if_icmp .le 5, 3) := by decide +kernel
theorem d_E_extend_47 : decode c_E_extend 47 = .ok (.iconst (-1), 1) := by decide +kernel
theorem d_E_extend_48 : decode c_E_extend 48 = .ok (.ireturn, 1) := by decide +kernel
theorem d_E_extend_49 : decode c_E_extend 49 = .ok (.aload_n 0, 1) := by decide +kernel
theorem d_E_extend_50 : decode c_E_extend 50 = .ok (.invokevirtual 71, 3) := by decide +kernel
theorem d_E_extend_53 : decode c_E_extend 53 = .ok (.ifCond .eq 6, 3) := by decide +kernel
theorem d_E_extend_56 : decode c_E_extend 56 = .ok (.bipush (-3), 2) := by decide +kernel
theorem d_E_extend_58 : decode c_E_extend 58 = .ok (.ireturn, 1) := by decide +kernel
theorem d_E_extend_59 : decode c_E_extend 59 = .ok (.aload_n 0, 1) := by decide +kernel
theorem d_E_extend_60 : decode c_E_extend 60 = .ok (.iload_n 1, 1) := by decide +kernel
theorem d_E_extend_61 : decode c_E_extend 61 = .ok (.invokevirtual 108, 3) := by decide +kernel
theorem d_E_extend_64 : decode c_E_extend 64 = .ok (.ifCond .eq 6, 3) := by decide +kernel
theorem d_E_extend_67 : decode c_E_extend 67 = .ok (.bipush (-4), 2) := by decide +kernel
theorem d_E_extend_69 : decode c_E_extend 69 = .ok (.ireturn, 1) := by decide +kernel
theorem d_E_extend_70 : decode c_E_extend 70 = .ok (.aload_n 3, 1) := by decide +kernel
theorem d_E_extend_71 : decode c_E_extend 71 = .ok (.aload_n 3, 1) := by decide +kernel
theorem d_E_extend_72 : decode c_E_extend 72 = .ok (.getfield 105, 3) := by decide +kernel
theorem d_E_extend_75 : decode c_E_extend 75 = .ok (.iload_n 2, 1) := by decide +kernel
theorem d_E_extend_76 : decode c_E_extend 76 = .ok (.iadd, 1) := by decide +kernel
theorem d_E_extend_77 : decode c_E_extend 77 = .ok (.invokevirtual 112, 3) := by decide +kernel
theorem d_E_extend_80 : decode c_E_extend 80 = .ok (.astore 4, 2) := by decide +kernel
theorem d_E_extend_82 : decode c_E_extend 82 = .ok (.aload_n 0, 1) := by decide +kernel
theorem d_E_extend_83 : decode c_E_extend 83 = .ok (.aload 4, 2) := by decide +kernel
theorem d_E_extend_85 : decode c_E_extend 85 = .ok (.aload_n 3, 1) := by decide +kernel
theorem d_E_extend_86 : decode c_E_extend 86 = .ok (.getfield 105, 3) := by decide +kernel
theorem d_E_extend_89 : decode c_E_extend 89 = .ok (.invokevirtual 86, 3) := by decide +kernel
theorem d_E_extend_92 : decode c_E_extend 92 = .ok (.ifCond .ne 6, 3) := by decide +kernel
theorem d_E_extend_95 : decode c_E_extend 95 = .ok (.bipush (-5), 2) := by decide +kernel
theorem d_E_extend_97 : decode c_E_extend 97 = .ok (.ireturn, 1) := by decide +kernel
theorem d_E_extend_98 : decode c_E_extend 98 = .ok (.aload_n 0, 1) := by decide +kernel
theorem d_E_extend_99 : decode c_E_extend 99 = .ok (.aload_n 0, 1) := by decide +kernel
theorem d_E_extend_100 : decode c_E_extend 100 = .ok (.getfield 47, 3) := by decide +kernel
theorem d_E_extend_103 : decode c_E_extend 103 = .ok (.getfield 75, 3) := by decide +kernel
theorem d_E_extend_106 : decode c_E_extend 106 = .ok (.iload_n 1, 1) := by decide +kernel
theorem d_E_extend_107 : decode c_E_extend 107 = .ok (.aload 4, 2) := by decide +kernel
theorem d_E_extend_109 : decode c_E_extend 109 = .ok (.invokevirtual 90, 3) := by decide +kernel
theorem d_E_extend_112 : decode c_E_extend 112 = .ok (.invokevirtual 94, 3) := by decide +kernel
theorem d_E_extend_115 : decode c_E_extend 115 = .ok (.ifCond .eq 11, 3) := by decide +kernel
theorem d_E_extend_118 : decode c_E_extend 118 = .ok (.aload 4, 2) := by decide +kernel
theorem d_E_extend_120 : decode c_E_extend 120 = .ok (.getfield 105, 3) := by decide +kernel
theorem d_E_extend_123 : decode c_E_extend 123 = .ok (.goto 5, 3) := by decide +kernel
theorem d_E_extend_126 : decode c_E_extend 126 = .ok (.bipush (-7), 2) := by decide +kernel
theorem d_E_extend_128 : decode c_E_extend 128 = .ok (.ireturn, 1) := by decide +kernel
theorem d_E_isMoving_0 : decode c_E_isMoving 0 = .ok (.aload_n 0, 1) := by decide +kernel
theorem d_E_isMoving_1 : decode c_E_isMoving 1 = .ok (.getfield 47, 3) := by decide +kernel
theorem d_E_isMoving_4 : decode c_E_isMoving 4 = .ok (.getfield 75, 3) := by decide +kernel
theorem d_E_isMoving_7 : decode c_E_isMoving 7 = .ok (.getfield 121, 3) := by decide +kernel
theorem d_E_isMoving_10 : decode c_E_isMoving 10 = .ok (.astore_n 2, 1) := by decide +kernel
theorem d_E_isMoving_11 : decode c_E_isMoving 11 = .ok (.aload_n 2, 1) := by decide +kernel
theorem d_E_isMoving_12 : decode c_E_isMoving 12 = .ok (.ifnull 15, 3) := by decide +kernel
theorem d_E_isMoving_15 : decode c_E_isMoving 15 = .ok (.aload_n 2, 1) := by decide +kernel
theorem d_E_isMoving_16 : decode c_E_isMoving 16 = .ok (.getfield 198, 3) := by decide +kernel
theorem d_E_isMoving_19 : decode c_E_isMoving 19 = .ok (.iload_n 1, 1) := by decide +kernel
theorem d_E_isMoving_20 : decode c_E_isMoving 20 = .ok (.if_icmp .ne 7, 3) := by decide +kernel
theorem d_E_isMoving_23 : decode c_E_isMoving 23 = .ok (.iconst 1, 1) := by decide +kernel
theorem d_E_isMoving_24 : decode c_E_isMoving 24 = .ok (.goto 4, 3) := by decide +kernel
theorem d_E_isMoving_27 : decode c_E_isMoving 27 = .ok (.iconst 0, 1) := by decide +kernel
theorem d_E_isMoving_28 : decode c_E_isMoving 28 = .ok (.ireturn, 1) := by decide +kernel
theorem d_E_reduce_0 : decode c_E_reduce 0 = .ok (.aload_n 0, 1) := by decide +kernel
theorem d_E_reduce_1 : decode c_E_reduce 1 = .ok (.getfield 60, 3) := by decide +kernel
theorem d_E_reduce_4 : decode c_E_reduce 4 = .ok (.ifCond .ne 6, 3) := by decide +kernel
theorem d_E_reduce_7 : decode c_E_reduce 7 = .ok (.bipush (-2), 2) := by decide +kernel
theorem d_E_reduce_9 : decode c_E_reduce 9 = .ok (.ireturn, 1) := by decide +kernel
theorem d_E_reduce_10 : decode c_E_reduce 10 = .ok (.aload_n 0, 1) := by decide +kernel
theorem d_E_reduce_11 : decode c_E_reduce 11 = .ok (.getfield 47, 3) := by decide +kernel
theorem d_E_reduce_14 : decode c_E_reduce 14 = .ok (.getfield 75, 3) := by decide +kernel
theorem d_E_reduce_17 : decode c_E_reduce 17 = .ok (.iload_n 1, 1) := by decide +kernel
theorem d_E_reduce_18 : decode c_E_reduce 18 = .ok (.invokevirtual 98, 3) := by decide +kernel
theorem d_E_reduce_21 : decode c_E_reduce 21 = .ok (.astore_n 3, 1) := by decide +kernel
theorem d_E_reduce_22 : decode c_E_reduce 22 = .ok (.aload_n 3, 1) := by decide +kernel
theorem d_E_reduce_23 : decode c_E_reduce 23 = .ok (.ifnull 16, 3) := by decide +kernel
theorem d_E_reduce_26 : decode c_E_reduce 26 = .ok (.iload_n 2, 1) := by decide +kernel
theorem d_E_reduce_27 : decode c_E_reduce 27 = .ok (.iconst 1, 1) := by decide +kernel
theorem d_E_reduce_28 : decode c_E_reduce 28 = .ok (.if_icmp .lt 11, 3) := by decide +kernel
theorem d_E_reduce_31 : decode c_E_reduce 31 = .ok (.iload_n 2, 1) := by decide +kernel
theorem d_E_reduce_32 : decode c_E_reduce 32 = .ok (.aload_n 3, 1) := by decide +kernel
theorem d_E_reduce_33 : decode c_E_reduce 33 = .ok (.getfield 105, 3) := by decide +kernel
theorem d_E_reduce_36 : decode c_E_reduce 36 = .ok (.if_icmp .le 5, 3) := by decide +kernel
theorem d_E_reduce_39 : decode c_E_reduce 39 = .ok (.iconst (-1), 1) := by decide +kernel
theorem d_E_reduce_40 : decode c_E_reduce 40 = .ok (.ireturn, 1) := by decide +kernel
theorem d_E_reduce_41 : decode c_E_reduce 41 = .ok (.aload_n 0, 1) := by decide +kernel
theorem d_E_reduce_42 : decode c_E_reduce 42 = .ok (.invokevirtual 71, 3) := by decide +kernel
theorem d_E_reduce_45 : decode c_E_reduce 45 = .ok (.ifCond .eq 6, 3) := by decide +kernel
theorem d_E_reduce_48 : decode c_E_reduce 48 = .ok (.bipush (-3), 2) := by decide +kernel
theorem d_E_reduce_50 : decode c_E_reduce 50 = .ok (.ireturn, 1) := by decide +kernel
theorem d_E_reduce_51 : decode c_E_reduce 51 = .ok (.aload_n 0, 1) := by decide +kernel
theorem d_E_reduce_52 : decode c_E_reduce 52 = .ok (.iload_n 1, 1) := by decide +kernel
theorem d_E_reduce_53 : decode c_E_reduce 53 = .ok (.invokevirtual 108, 3) := by decide +kernel
theorem d_E_reduce_56 : decode c_E_reduce 56 = .ok (.ifCond .eq 6, 3) := by decide +kernel
theorem d_E_reduce_59 : decode c_E_reduce 59 = .ok (.bipush (-4), 2) := by decide +kernel
theorem d_E_reduce_61 : decode c_E_reduce 61 = .ok (.ireturn, 1) := by decide +kernel
theorem d_E_reduce_62 : decode c_E_reduce 62 = .ok (.aload_n 3, 1) := by decide +kernel
theorem d_E_reduce_63 : decode c_E_reduce 63 = .ok (.getfield 105, 3) := by decide +kernel
theorem d_E_reduce_66 : decode c_E_reduce 66 = .ok (.iload_n 2, 1) := by decide +kernel
theorem d_E_reduce_67 : decode c_E_reduce 67 = .ok (.isub, 1) := by decide +kernel
theorem d_E_reduce_68 : decode c_E_reduce 68 = .ok (.istore 4, 2) := by decide +kernel
theorem d_E_reduce_70 : decode c_E_reduce 70 = .ok (.iload 4, 2) := by decide +kernel
theorem d_E_reduce_72 : decode c_E_reduce 72 = .ok (.ifCond .ne 7, 3) := by decide +kernel
theorem d_E_reduce_75 : decode c_E_reduce 75 = .ok (.aconst_null, 1) := by decide +kernel
theorem d_E_reduce_76 : decode c_E_reduce 76 = .ok (.goto 9, 3) := by decide +kernel
theorem d_E_reduce_79 : decode c_E_reduce 79 = .ok (.aload_n 3, 1) := by decide +kernel
theorem d_E_reduce_80 : decode c_E_reduce 80 = .ok (.iload 4, 2) := by decide +kernel
theorem d_E_reduce_82 : decode c_E_reduce 82 = .ok (.invokevirtual 112, 3) := by decide +kernel
theorem d_E_reduce_85 : decode c_E_reduce 85 = .ok (.astore 5, 2) := by decide +kernel
theorem d_E_reduce_87 : decode c_E_reduce 87 = .ok (.aload_n 0, 1) := by decide +kernel
theorem d_E_reduce_88 : decode c_E_reduce 88 = .ok (.aload_n 0, 1) := by decide +kernel
theorem d_E_reduce_89 : decode c_E_reduce 89 = .ok (.getfield 47, 3) := by decide +kernel
theorem d_E_reduce_92 : decode c_E_reduce 92 = .ok (.getfield 75, 3) := by decide +kernel
theorem d_E_reduce_95 : decode c_E_reduce 95 = .ok (.iload_n 1, 1) := by decide +kernel
theorem d_E_reduce_96 : decode c_E_reduce 96 = .ok (.aload 5, 2) := by decide +kernel
theorem d_E_reduce_98 : decode c_E_reduce 98 = .ok (.invokevirtual 90, 3) := by decide +kernel
theorem d_E_reduce_101 : decode c_E_reduce 101 = .ok (.invokevirtual 94, 3) := by decide +kernel
theorem d_E_reduce_104 : decode c_E_reduce 104 = .ok (.ifCond .eq 8, 3) := by decide +kernel
theorem d_E_reduce_107 : decode c_E_reduce 107 = .ok (.iload 4, 2) := by decide +kernel
theorem d_E_reduce_109 : decode c_E_reduce 109 = .ok (.goto 5, 3) := by decide +kernel
theorem d_E_reduce_112 : decode c_E_reduce 112 = .ok (.bipush (-7), 2) := by decide +kernel
theorem d_E_reduce_114 : decode c_E_reduce 114 = .ok (.ireturn, 1) := by decide +kernel
theorem d_E_move_0 : decode c_E_move 0 = .ok (.aload_n 0, 1) := by decide +kernel
theorem d_E_move_1 : decode c_E_move 1 = .ok (.getfield 60, 3) := by decide +kernel
theorem d_E_move_4 : decode c_E_move 4 = .ok (.ifCond .ne 6, 3) := by decide +kernel
theorem d_E_move_7 : decode c_E_move 7 = .ok (.bipush (-2), 2) := by decide +kernel
theorem d_E_move_9 : decode c_E_move 9 = .ok (.ireturn, 1) := by decide +kernel
theorem d_E_move_10 : decode c_E_move 10 = .ok (.aload_n 0, 1) := by decide +kernel
theorem d_E_move_11 : decode c_E_move 11 = .ok (.getfield 47, 3) := by decide +kernel
theorem d_E_move_14 : decode c_E_move 14 = .ok (.getfield 75, 3) := by decide +kernel
theorem d_E_move_17 : decode c_E_move 17 = .ok (.iload_n 1, 1) := by decide +kernel
theorem d_E_move_18 : decode c_E_move 18 = .ok (.invokevirtual 98, 3) := by decide +kernel
theorem d_E_move_21 : decode c_E_move 21 = .ok (.astore 4, 2) := by decide +kernel
theorem d_E_move_23 : decode c_E_move 23 = .ok (.aload 4, 2) := by decide +kernel
theorem d_E_move_25 : decode c_E_move 25 = .ok (.ifnull 20, 3) := by decide +kernel
theorem d_E_move_28 : decode c_E_move 28 = .ok (.aload 4, 2) := by decide +kernel
theorem d_E_move_30 : decode c_E_move 30 = .ok (.iload_n 2, 1) := by decide +kernel
theorem d_E_move_31 : decode c_E_move 31 = .ok (.invokevirtual 115, 3) := by decide +kernel
theorem d_E_move_34 : decode c_E_move 34 = .ok (.ifCond .eq 11, 3) := by decide +kernel
theorem d_E_move_37 : decode c_E_move 37 = .ok (.aload_n 0, 1) := by decide +kernel
theorem d_E_move_38 : decode c_E_move 38 = .ok (.iload_n 3, 1) := by decide +kernel
theorem d_E_move_39 : decode c_E_move 39 = .ok (.invokevirtual 118, 3) := by decide +kernel
theorem d_E_move_42 : decode c_E_move 42 = .ok (.ifCond .ne 5, 3) := by decide +kernel
theorem d_E_move_45 : decode c_E_move 45 = .ok (.iconst (-1), 1) := by decide +kernel
theorem d_E_move_46 : decode c_E_move 46 = .ok (.ireturn, 1) := by decide +kernel
theorem d_E_move_47 : decode c_E_move 47 = .ok (.aload_n 0, 1) := by decide +kernel
theorem d_E_move_48 : decode c_E_move 48 = .ok (.invokevirtual 71, 3) := by decide +kernel
theorem d_E_move_51 : decode c_E_move 51 = .ok (.ifCond .eq 6, 3) := by decide +kernel
theorem d_E_move_54 : decode c_E_move 54 = .ok (.bipush (-3), 2) := by decide +kernel
theorem d_E_move_56 : decode c_E_move 56 = .ok (.ireturn, 1) := by decide +kernel
theorem d_E_move_57 : decode c_E_move 57 = .ok (.aload_n 0, 1) := by decide +kernel
theorem d_E_move_58 : decode c_E_move 58 = .ok (.getfield 47, 3) := by decide +kernel
theorem d_E_move_61 : decode c_E_move 61 = .ok (.getfield 75, 3) := by decide +kernel
theorem d_E_move_64 : decode c_E_move 64 = .ok (.getfield 121, 3) := by decide +kernel
theorem d_E_move_67 : decode c_E_move 67 = .ok (.ifnull 6, 3) := by decide +kernel
theorem d_E_move_70 : decode c_E_move 70 = .ok (.bipush (-4), 2) := by decide +kernel
theorem d_E_move_72 : decode c_E_move 72 = .ok (.ireturn, 1) := by decide +kernel
theorem d_E_move_73 : decode c_E_move 73 = .ok (.aload 4, 2) := by decide +kernel
theorem d_E_move_75 : decode c_E_move 75 = .ok (.getfield 125, 3) := by decide +kernel
theorem d_E_move_78 : decode c_E_move 78 = .ok (.iload_n 2, 1) := by decide +kernel
theorem d_E_move_79 : decode c_E_move 79 = .ok (.iaload, 1) := by decide +kernel
theorem d_E_move_80 : decode c_E_move 80 = .ok (.istore 5, 2) := by decide +kernel
theorem d_E_move_82 : decode c_E_move 82 = .ok (.aload_n 0, 1) := by decide +kernel
theorem d_E_move_83 : decode c_E_move 83 = .ok (.iload 5, 2) := by decide +kernel
theorem d_E_move_85 : decode c_E_move 85 = .ok (.invokevirtual 128, 3) := by decide +kernel
theorem d_E_move_88 : decode c_E_move 88 = .ok (.getfield 132, 3) := by decide +kernel
theorem d_E_move_91 : decode c_E_move 91 = .ok (.ifCond .eq 15, 3) := by decide +kernel
theorem d_E_move_94 : decode c_E_move 94 = .ok (.aload_n 0, 1) := by decide +kernel
theorem d_E_move_95 : decode c_E_move 95 = .ok (.getfield 36, 3) := by decide +kernel
theorem d_E_move_98 : decode c_E_move 98 = .ok (.iload_n 3, 1) := by decide +kernel
theorem d_E_move_99 : decode c_E_move 99 = .ok (.aaload, 1) := by decide +kernel
theorem d_E_move_100 : decode c_E_move 100 = .ok (.getfield 132, 3) := by decide +kernel
theorem d_E_move_103 : decode c_E_move 103 = .ok (.ifCond .ne 6, 3) := by decide +kernel
theorem d_E_move_106 : decode c_E_move 106 = .ok (.bipush (-6), 2) := by decide +kernel
theorem d_E_move_108 : decode c_E_move 108 = .ok (.ireturn, 1) := by decide +kernel
theorem d_E_move_109 : decode c_E_move 109 = .ok (.aload_n 0, 1) := by decide +kernel
theorem d_E_move_110 : decode c_E_move 110 = .ok (.invokevirtual 135, 3) := by decide +kernel
theorem d_E_move_113 : decode c_E_move 113 = .ok (.aload_n 0, 1) := by decide +kernel
theorem d_E_move_114 : decode c_E_move 114 = .ok (.iload_n 3, 1) := by decide +kernel
theorem d_E_move_115 : decode c_E_move 115 = .ok (.invokevirtual 138, 3) := by decide +kernel
theorem d_E_move_118 : decode c_E_move 118 = .ok (.istore 6, 2) := by decide +kernel
theorem d_E_move_120 : decode c_E_move 120 = .ok (.iload 6, 2) := by decide +kernel
theorem d_E_move_122 : decode c_E_move 122 = .ok (.iconst (-1), 1) := by decide +kernel
theorem d_E_move_123 : decode c_E_move 123 = .ok (.if_icmp .ne 6, 3) := by decide +kernel
theorem d_E_move_126 : decode c_E_move 126 = .ok (.bipush (-5), 2) := by decide +kernel
theorem d_E_move_128 : decode c_E_move 128 = .ok (.ireturn, 1) := by decide +kernel
theorem d_E_move_129 : decode c_E_move 129 = .ok (.aload_n 0, 1) := by decide +kernel
theorem d_E_move_130 : decode c_E_move 130 = .ok (.aload_n 0, 1) := by decide +kernel
theorem d_E_move_131 : decode c_E_move 131 = .ok (.getfield 47, 3) := by decide +kernel
theorem d_E_move_134 : decode c_E_move 134 = .ok (.getfield 75, 3) := by decide +kernel
theorem d_E_move_137 : decode c_E_move 137 = .ok (.new 142, 3) := by decide +kernel
theorem d_E_move_140 : decode c_E_move 140 = .ok (.dup, 1) := by decide +kernel
theorem d_E_move_141 : decode c_E_move 141 = .ok (.iload_n 1, 1) := by decide +kernel
theorem d_E_move_142 : decode c_E_move 142 = .ok (.iload_n 2, 1) := by decide +kernel
theorem d_E_move_143 : decode c_E_move 143 = .ok (.iload 5, 2) := by decide +kernel
theorem d_E_move_145 : decode c_E_move 145 = .ok (.iload 6, 2) := by decide +kernel
theorem d_E_move_147 : decode c_E_move 147 = .ok (.invokespecial 144, 3) := by decide +kernel
theorem d_E_move_150 : decode c_E_move 150 = .ok (.invokevirtual 147, 3) := by decide +kernel
theorem d_E_move_153 : decode c_E_move 153 = .ok (.invokevirtual 94, 3) := by decide +kernel
theorem d_E_move_156 : decode c_E_move 156 = .ok (.ifCond .ne 6, 3) := by decide +kernel
theorem d_E_move_159 : decode c_E_move 159 = .ok (.bipush (-7), 2) := by decide +kernel
theorem d_E_move_161 : decode c_E_move 161 = .ok (.ireturn, 1) := by decide +kernel
theorem d_E_move_162 : decode c_E_move 162 = .ok (.aload_n 0, 1) := by decide +kernel
theorem d_E_move_163 : decode c_E_move 163 = .ok (.iconst 0, 1) := by decide +kernel
theorem d_E_move_164 : decode c_E_move 164 = .ok (.putfield 51, 3) := by decide +kernel
theorem d_E_move_167 : decode c_E_move 167 = .ok (.iconst 0, 1) := by decide +kernel
theorem d_E_move_168 : decode c_E_move 168 = .ok (.ireturn, 1) := by decide +kernel
theorem d_E_isDisk_0 : decode c_E_isDisk 0 = .ok (.iload_n 1, 1) := by decide +kernel
theorem d_E_isDisk_1 : decode c_E_isDisk 1 = .ok (.ifCond .lt 16, 3) := by decide +kernel
theorem d_E_isDisk_4 : decode c_E_isDisk 4 = .ok (.iload_n 1, 1) := by decide +kernel
theorem d_E_isDisk_5 : decode c_E_isDisk 5 = .ok (.aload_n 0, 1) := by decide +kernel
theorem d_E_isDisk_6 : decode c_E_isDisk 6 = .ok (.getfield 36, 3) := by decide +kernel
theorem d_E_isDisk_9 : decode c_E_isDisk 9 = .ok (.arraylength, 1) := by decide +kernel
theorem d_E_isDisk_10 : decode c_E_isDisk 10 = .ok (.if_icmp .ge 7, 3) := by decide +kernel
theorem d_E_isDisk_13 : decode c_E_isDisk 13 = .ok (.iconst 1, 1) := by decide +kernel
theorem d_E_isDisk_14 : decode c_E_isDisk 14 = .ok (.goto 4, 3) := by decide +kernel
theorem d_E_isDisk_17 : decode c_E_isDisk 17 = .ok (.iconst 0, 1) := by decide +kernel
theorem d_E_isDisk_18 : decode c_E_isDisk 18 = .ok (.ireturn, 1) := by decide +kernel
theorem d_E_diskOf_0 : decode c_E_diskOf 0 = .ok (.aload_n 0, 1) := by decide +kernel
theorem d_E_diskOf_1 : decode c_E_diskOf 1 = .ok (.getfield 36, 3) := by decide +kernel
theorem d_E_diskOf_4 : decode c_E_diskOf 4 = .ok (.iload_n 1, 1) := by decide +kernel
theorem d_E_diskOf_5 : decode c_E_diskOf 5 = .ok (.bipush 16, 2) := by decide +kernel
theorem d_E_diskOf_7 : decode c_E_diskOf 7 = .ok (.idiv, 1) := by decide +kernel
theorem d_E_diskOf_8 : decode c_E_diskOf 8 = .ok (.aaload, 1) := by decide +kernel
theorem d_E_diskOf_9 : decode c_E_diskOf 9 = .ok (.areturn, 1) := by decide +kernel
theorem d_E_step_0 : decode c_E_step 0 = .ok (.aload_n 0, 1) := by decide +kernel
theorem d_E_step_1 : decode c_E_step 1 = .ok (.getfield 60, 3) := by decide +kernel
theorem d_E_step_4 : decode c_E_step 4 = .ok (.ifCond .ne 6, 3) := by decide +kernel
theorem d_E_step_7 : decode c_E_step 7 = .ok (.bipush (-2), 2) := by decide +kernel
theorem d_E_step_9 : decode c_E_step 9 = .ok (.ireturn, 1) := by decide +kernel
theorem d_E_step_10 : decode c_E_step 10 = .ok (.aload_n 0, 1) := by decide +kernel
theorem d_E_step_11 : decode c_E_step 11 = .ok (.getfield 47, 3) := by decide +kernel
theorem d_E_step_14 : decode c_E_step 14 = .ok (.getfield 75, 3) := by decide +kernel
theorem d_E_step_17 : decode c_E_step 17 = .ok (.getfield 121, 3) := by decide +kernel
theorem d_E_step_20 : decode c_E_step 20 = .ok (.astore_n 1, 1) := by decide +kernel
theorem d_E_step_21 : decode c_E_step 21 = .ok (.aload_n 1, 1) := by decide +kernel
theorem d_E_step_22 : decode c_E_step 22 = .ok (.ifnonnull 6, 3) := by decide +kernel
theorem d_E_step_25 : decode c_E_step 25 = .ok (.bipush (-8), 2) := by decide +kernel
theorem d_E_step_27 : decode c_E_step 27 = .ok (.ireturn, 1) := by decide +kernel
theorem d_E_step_28 : decode c_E_step 28 = .ok (.aload_n 0, 1) := by decide +kernel
theorem d_E_step_29 : decode c_E_step 29 = .ok (.invokevirtual 71, 3) := by decide +kernel
theorem d_E_step_32 : decode c_E_step 32 = .ok (.ifCond .eq 6, 3) := by decide +kernel
theorem d_E_step_35 : decode c_E_step 35 = .ok (.bipush (-3), 2) := by decide +kernel
theorem d_E_step_37 : decode c_E_step 37 = .ok (.ireturn, 1) := by decide +kernel
theorem d_E_step_38 : decode c_E_step 38 = .ok (.aload_n 0, 1) := by decide +kernel
theorem d_E_step_39 : decode c_E_step 39 = .ok (.aload_n 1, 1) := by decide +kernel
theorem d_E_step_40 : decode c_E_step 40 = .ok (.getfield 151, 3) := by decide +kernel
theorem d_E_step_43 : decode c_E_step 43 = .ok (.invokevirtual 128, 3) := by decide +kernel
theorem d_E_step_46 : decode c_E_step 46 = .ok (.getfield 132, 3) := by decide +kernel
theorem d_E_step_49 : decode c_E_step 49 = .ok (.ifCond .eq 17, 3) := by decide +kernel
theorem d_E_step_52 : decode c_E_step 52 = .ok (.aload_n 0, 1) := by decide +kernel
theorem d_E_step_53 : decode c_E_step 53 = .ok (.aload_n 1, 1) := by decide +kernel
theorem d_E_step_54 : decode c_E_step 54 = .ok (.getfield 154, 3) := by decide +kernel
theorem d_E_step_57 : decode c_E_step 57 = .ok (.invokevirtual 128, 3) := by decide +kernel
theorem d_E_step_60 : decode c_E_step 60 = .ok (.getfield 132, 3) := by decide +kernel
theorem d_E_step_63 : decode c_E_step 63 = .ok (.ifCond .ne 6, 3) := by decide +kernel
theorem d_E_step_66 : decode c_E_step 66 = .ok (.bipush (-6), 2) := by decide +kernel
theorem d_E_step_68 : decode c_E_step 68 = .ok (.ireturn, 1) := by decide +kernel
theorem d_E_step_69 : decode c_E_step 69 = .ok (.aload_n 0, 1) := by decide +kernel
theorem d_E_step_70 : decode c_E_step 70 = .ok (.getfield 51, 3) := by decide +kernel
theorem d_E_step_73 : decode c_E_step 73 = .ok (.iconst 4, 1) := by decide +kernel
theorem d_E_step_74 : decode c_E_step 74 = .ok (.if_icmp .ne 27, 3) := by decide +kernel
theorem d_E_step_77 : decode c_E_step 77 = .ok (.aload_n 0, 1) := by decide +kernel
theorem d_E_step_78 : decode c_E_step 78 = .ok (.aload_n 0, 1) := by decide +kernel
theorem d_E_step_79 : decode c_E_step 79 = .ok (.getfield 47, 3) := by decide +kernel
theorem d_E_step_82 : decode c_E_step 82 = .ok (.getfield 75, 3) := by decide +kernel
theorem d_E_step_85 : decode c_E_step 85 = .ok (.invokevirtual 157, 3) := by decide +kernel
theorem d_E_step_88 : decode c_E_step 88 = .ok (.invokevirtual 94, 3) := by decide +kernel
theorem d_E_step_91 : decode c_E_step 91 = .ok (.ifCond .eq 7, 3) := by decide +kernel
theorem d_E_step_94 : decode c_E_step 94 = .ok (.iconst 4, 1) := by decide +kernel
theorem d_E_step_95 : decode c_E_step 95 = .ok (.goto 5, 3) := by decide +kernel
theorem d_E_step_98 : decode c_E_step 98 = .ok (.bipush (-7), 2) := by decide +kernel
theorem d_E_step_100 : decode c_E_step 100 = .ok (.ireturn, 1) := by decide +kernel
theorem d_E_step_101 : decode c_E_step 101 = .ok (.aload_n 0, 1) := by decide +kernel
theorem d_E_step_102 : decode c_E_step 102 = .ok (.aload_n 1, 1) := by decide +kernel
theorem d_E_step_103 : decode c_E_step 103 = .ok (.getfield 154, 3) := by decide +kernel
theorem d_E_step_106 : decode c_E_step 106 = .ok (.aload_n 0, 1) := by decide +kernel
theorem d_E_step_107 : decode c_E_step 107 = .ok (.getfield 51, 3) := by decide +kernel
theorem d_E_step_110 : decode c_E_step 110 = .ok (.aload_n 0, 1) := by decide +kernel
theorem d_E_step_111 : decode c_E_step 111 = .ok (.aload_n 1, 1) := by decide +kernel
theorem d_E_step_112 : decode c_E_step 112 = .ok (.getfield 151, 3) := by decide +kernel
theorem d_E_step_115 : decode c_E_step 115 = .ok (.aload_n 0, 1) := by decide +kernel
theorem d_E_step_116 : decode c_E_step 116 = .ok (.getfield 51, 3) := by decide +kernel
theorem d_E_step_119 : decode c_E_step 119 = .ok (.invokevirtual 161, 3) := by decide +kernel
theorem d_E_step_122 : decode c_E_step 122 = .ok (.invokevirtual 164, 3) := by decide +kernel
theorem d_E_step_125 : decode c_E_step 125 = .ok (.ifCond .ne 6, 3) := by decide +kernel
theorem d_E_step_128 : decode c_E_step 128 = .ok (.bipush (-7), 2) := by decide +kernel
theorem d_E_step_130 : decode c_E_step 130 = .ok (.ireturn, 1) := by decide +kernel
theorem d_E_step_131 : decode c_E_step 131 = .ok (.aload_n 0, 1) := by decide +kernel
theorem d_E_step_132 : decode c_E_step 132 = .ok (.dup, 1) := by decide +kernel
theorem d_E_step_133 : decode c_E_step 133 = .ok (.getfield 51, 3) := by decide +kernel
theorem d_E_step_136 : decode c_E_step 136 = .ok (.iconst 1, 1) := by decide +kernel
theorem d_E_step_137 : decode c_E_step 137 = .ok (.iadd, 1) := by decide +kernel
theorem d_E_step_138 : decode c_E_step 138 = .ok (.putfield 51, 3) := by decide +kernel
theorem d_E_step_141 : decode c_E_step 141 = .ok (.iconst 4, 1) := by decide +kernel
theorem d_E_step_142 : decode c_E_step 142 = .ok (.aload_n 0, 1) := by decide +kernel
theorem d_E_step_143 : decode c_E_step 143 = .ok (.getfield 51, 3) := by decide +kernel
theorem d_E_step_146 : decode c_E_step 146 = .ok (.isub, 1) := by decide +kernel
theorem d_E_step_147 : decode c_E_step 147 = .ok (.ireturn, 1) := by decide +kernel
theorem d_E_cellAt_0 : decode c_E_cellAt 0 = .ok (.aload_n 0, 1) := by decide +kernel
theorem d_E_cellAt_1 : decode c_E_cellAt 1 = .ok (.iload_n 1, 1) := by decide +kernel
theorem d_E_cellAt_2 : decode c_E_cellAt 2 = .ok (.invokevirtual 128, 3) := by decide +kernel
theorem d_E_cellAt_5 : decode c_E_cellAt 5 = .ok (.getfield 215, 3) := by decide +kernel
theorem d_E_cellAt_8 : decode c_E_cellAt 8 = .ok (.iload_n 1, 1) := by decide +kernel
theorem d_E_cellAt_9 : decode c_E_cellAt 9 = .ok (.bipush 16, 2) := by decide +kernel
theorem d_E_cellAt_11 : decode c_E_cellAt 11 = .ok (.irem, 1) := by decide +kernel
theorem d_E_cellAt_12 : decode c_E_cellAt 12 = .ok (.iconst 4, 1) := by decide +kernel
theorem d_E_cellAt_13 : decode c_E_cellAt 13 = .ok (.imul, 1) := by decide +kernel
theorem d_E_cellAt_14 : decode c_E_cellAt 14 = .ok (.iload_n 2, 1) := by decide +kernel
theorem d_E_cellAt_15 : decode c_E_cellAt 15 = .ok (.iadd, 1) := by decide +kernel
theorem d_E_cellAt_16 : decode c_E_cellAt 16 = .ok (.iaload, 1) := by decide +kernel
theorem d_E_cellAt_17 : decode c_E_cellAt 17 = .ok (.ireturn, 1) := by decide +kernel
theorem d_E_putCell_0 : decode c_E_putCell 0 = .ok (.aload_n 0, 1) := by decide +kernel
theorem d_E_putCell_1 : decode c_E_putCell 1 = .ok (.invokevirtual 218, 3) := by decide +kernel
theorem d_E_putCell_4 : decode c_E_putCell 4 = .ok (.ifCond .ne 5, 3) := by decide +kernel
theorem d_E_putCell_7 : decode c_E_putCell 7 = .ok (.iconst 0, 1) := by decide +kernel
theorem d_E_putCell_8 : decode c_E_putCell 8 = .ok (.ireturn, 1) := by decide +kernel
theorem d_E_putCell_9 : decode c_E_putCell 9 = .ok (.aload_n 0, 1) := by decide +kernel
theorem d_E_putCell_10 : decode c_E_putCell 10 = .ok (.iload_n 1, 1) := by decide +kernel
theorem d_E_putCell_11 : decode c_E_putCell 11 = .ok (.invokevirtual 128, 3) := by decide +kernel
theorem d_E_putCell_14 : decode c_E_putCell 14 = .ok (.getfield 215, 3) := by decide +kernel
theorem d_E_putCell_17 : decode c_E_putCell 17 = .ok (.iload_n 1, 1) := by decide +kernel
theorem d_E_putCell_18 : decode c_E_putCell 18 = .ok (.bipush 16, 2) := by decide +kernel
theorem d_E_putCell_20 : decode c_E_putCell 20 = .ok (.irem, 1) := by decide +kernel
theorem d_E_putCell_21 : decode c_E_putCell 21 = .ok (.iconst 4, 1) := by decide +kernel
theorem d_E_putCell_22 : decode c_E_putCell 22 = .ok (.imul, 1) := by decide +kernel
theorem d_E_putCell_23 : decode c_E_putCell 23 = .ok (.iload_n 2, 1) := by decide +kernel
theorem d_E_putCell_24 : decode c_E_putCell 24 = .ok (.iadd, 1) := by decide +kernel
theorem d_E_putCell_25 : decode c_E_putCell 25 = .ok (.iload_n 3, 1) := by decide +kernel
theorem d_E_putCell_26 : decode c_E_putCell 26 = .ok (.iastore, 1) := by decide +kernel
theorem d_E_putCell_27 : decode c_E_putCell 27 = .ok (.iconst 1, 1) := by decide +kernel
theorem d_E_putCell_28 : decode c_E_putCell 28 = .ok (.ireturn, 1) := by decide +kernel
theorem d_E_cancel_0 : decode c_E_cancel 0 = .ok (.aload_n 0, 1) := by decide +kernel
theorem d_E_cancel_1 : decode c_E_cancel 1 = .ok (.getfield 60, 3) := by decide +kernel
theorem d_E_cancel_4 : decode c_E_cancel 4 = .ok (.ifCond .ne 6, 3) := by decide +kernel
theorem d_E_cancel_7 : decode c_E_cancel 7 = .ok (.bipush (-2), 2) := by decide +kernel
theorem d_E_cancel_9 : decode c_E_cancel 9 = .ok (.ireturn, 1) := by decide +kernel
theorem d_E_cancel_10 : decode c_E_cancel 10 = .ok (.aload_n 0, 1) := by decide +kernel
theorem d_E_cancel_11 : decode c_E_cancel 11 = .ok (.getfield 47, 3) := by decide +kernel
theorem d_E_cancel_14 : decode c_E_cancel 14 = .ok (.getfield 75, 3) := by decide +kernel
theorem d_E_cancel_17 : decode c_E_cancel 17 = .ok (.getfield 121, 3) := by decide +kernel
theorem d_E_cancel_20 : decode c_E_cancel 20 = .ok (.ifnonnull 6, 3) := by decide +kernel
theorem d_E_cancel_23 : decode c_E_cancel 23 = .ok (.bipush (-8), 2) := by decide +kernel
theorem d_E_cancel_25 : decode c_E_cancel 25 = .ok (.ireturn, 1) := by decide +kernel
theorem d_E_cancel_26 : decode c_E_cancel 26 = .ok (.aload_n 0, 1) := by decide +kernel
theorem d_E_cancel_27 : decode c_E_cancel 27 = .ok (.invokevirtual 71, 3) := by decide +kernel
theorem d_E_cancel_30 : decode c_E_cancel 30 = .ok (.ifCond .eq 6, 3) := by decide +kernel
theorem d_E_cancel_33 : decode c_E_cancel 33 = .ok (.bipush (-3), 2) := by decide +kernel
theorem d_E_cancel_35 : decode c_E_cancel 35 = .ok (.ireturn, 1) := by decide +kernel
theorem d_E_cancel_36 : decode c_E_cancel 36 = .ok (.aload_n 0, 1) := by decide +kernel
theorem d_E_cancel_37 : decode c_E_cancel 37 = .ok (.aload_n 0, 1) := by decide +kernel
theorem d_E_cancel_38 : decode c_E_cancel 38 = .ok (.getfield 47, 3) := by decide +kernel
theorem d_E_cancel_41 : decode c_E_cancel 41 = .ok (.getfield 75, 3) := by decide +kernel
theorem d_E_cancel_44 : decode c_E_cancel 44 = .ok (.aconst_null, 1) := by decide +kernel
theorem d_E_cancel_45 : decode c_E_cancel 45 = .ok (.invokevirtual 147, 3) := by decide +kernel
theorem d_E_cancel_48 : decode c_E_cancel 48 = .ok (.invokevirtual 94, 3) := by decide +kernel
theorem d_E_cancel_51 : decode c_E_cancel 51 = .ok (.ifCond .eq 7, 3) := by decide +kernel
theorem d_E_cancel_54 : decode c_E_cancel 54 = .ok (.iconst 0, 1) := by decide +kernel
theorem d_E_cancel_55 : decode c_E_cancel 55 = .ok (.goto 5, 3) := by decide +kernel
theorem d_E_cancel_58 : decode c_E_cancel 58 = .ok (.bipush (-7), 2) := by decide +kernel
theorem d_E_cancel_60 : decode c_E_cancel 60 = .ok (.ireturn, 1) := by decide +kernel
theorem d_E_read_0 : decode c_E_read 0 = .ok (.aload_n 0, 1) := by decide +kernel
theorem d_E_read_1 : decode c_E_read 1 = .ok (.getfield 60, 3) := by decide +kernel
theorem d_E_read_4 : decode c_E_read 4 = .ok (.ifCond .ne 6, 3) := by decide +kernel
theorem d_E_read_7 : decode c_E_read 7 = .ok (.bipush (-2), 2) := by decide +kernel
theorem d_E_read_9 : decode c_E_read 9 = .ok (.ireturn, 1) := by decide +kernel
theorem d_E_read_10 : decode c_E_read 10 = .ok (.aload_n 0, 1) := by decide +kernel
theorem d_E_read_11 : decode c_E_read 11 = .ok (.getfield 47, 3) := by decide +kernel
theorem d_E_read_14 : decode c_E_read 14 = .ok (.getfield 75, 3) := by decide +kernel
theorem d_E_read_17 : decode c_E_read 17 = .ok (.iload_n 1, 1) := by decide +kernel
theorem d_E_read_18 : decode c_E_read 18 = .ok (.invokevirtual 98, 3) := by decide +kernel
theorem d_E_read_21 : decode c_E_read 21 = .ok (.astore_n 3, 1) := by decide +kernel
theorem d_E_read_22 : decode c_E_read 22 = .ok (.aload_n 3, 1) := by decide +kernel
theorem d_E_read_23 : decode c_E_read 23 = .ok (.ifnull 11, 3) := by decide +kernel
theorem d_E_read_26 : decode c_E_read 26 = .ok (.aload_n 3, 1) := by decide +kernel
theorem d_E_read_27 : decode c_E_read 27 = .ok (.iload_n 2, 1) := by decide +kernel
theorem d_E_read_28 : decode c_E_read 28 = .ok (.invokevirtual 168, 3) := by decide +kernel
theorem d_E_read_31 : decode c_E_read 31 = .ok (.ifCond .ne 5, 3) := by decide +kernel
theorem d_E_read_34 : decode c_E_read 34 = .ok (.iconst (-1), 1) := by decide +kernel
theorem d_E_read_35 : decode c_E_read 35 = .ok (.ireturn, 1) := by decide +kernel
theorem d_E_read_36 : decode c_E_read 36 = .ok (.aload_n 3, 1) := by decide +kernel
theorem d_E_read_37 : decode c_E_read 37 = .ok (.getfield 125, 3) := by decide +kernel
theorem d_E_read_40 : decode c_E_read 40 = .ok (.aload_n 3, 1) := by decide +kernel
theorem d_E_read_41 : decode c_E_read 41 = .ok (.iload_n 2, 1) := by decide +kernel
theorem d_E_read_42 : decode c_E_read 42 = .ok (.invokevirtual 171, 3) := by decide +kernel
theorem d_E_read_45 : decode c_E_read 45 = .ok (.iaload, 1) := by decide +kernel
theorem d_E_read_46 : decode c_E_read 46 = .ok (.istore 4, 2) := by decide +kernel
theorem d_E_read_48 : decode c_E_read 48 = .ok (.aload_n 0, 1) := by decide +kernel
theorem d_E_read_49 : decode c_E_read 49 = .ok (.iload 4, 2) := by decide +kernel
theorem d_E_read_51 : decode c_E_read 51 = .ok (.invokevirtual 128, 3) := by decide +kernel
theorem d_E_read_54 : decode c_E_read 54 = .ok (.getfield 132, 3) := by decide +kernel
theorem d_E_read_57 : decode c_E_read 57 = .ok (.ifCond .eq 17, 3) := by decide +kernel
theorem d_E_read_60 : decode c_E_read 60 = .ok (.aload_n 0, 1) := by decide +kernel
theorem d_E_read_61 : decode c_E_read 61 = .ok (.iload 4, 2) := by decide +kernel
theorem d_E_read_63 : decode c_E_read 63 = .ok (.aload_n 3, 1) := by decide +kernel
theorem d_E_read_64 : decode c_E_read 64 = .ok (.iload_n 2, 1) := by decide +kernel
theorem d_E_read_65 : decode c_E_read 65 = .ok (.invokevirtual 174, 3) := by decide +kernel
theorem d_E_read_68 : decode c_E_read 68 = .ok (.invokevirtual 161, 3) := by decide +kernel
theorem d_E_read_71 : decode c_E_read 71 = .ok (.goto 5, 3) := by decide +kernel
theorem d_E_read_74 : decode c_E_read 74 = .ok (.bipush (-6), 2) := by decide +kernel
theorem d_E_read_76 : decode c_E_read 76 = .ok (.ireturn, 1) := by decide +kernel
theorem d_E_write_0 : decode c_E_write 0 = .ok (.aload_n 0, 1) := by decide +kernel
theorem d_E_write_1 : decode c_E_write 1 = .ok (.getfield 60, 3) := by decide +kernel
theorem d_E_write_4 : decode c_E_write 4 = .ok (.ifCond .ne 6, 3) := by decide +kernel
theorem d_E_write_7 : decode c_E_write 7 = .ok (.bipush (-2), 2) := by decide +kernel
theorem d_E_write_9 : decode c_E_write 9 = .ok (.ireturn, 1) := by decide +kernel
theorem d_E_write_10 : decode c_E_write 10 = .ok (.aload_n 0, 1) := by decide +kernel
theorem d_E_write_11 : decode c_E_write 11 = .ok (.getfield 47, 3) := by decide +kernel
theorem d_E_write_14 : decode c_E_write 14 = .ok (.getfield 75, 3) := by decide +kernel
theorem d_E_write_17 : decode c_E_write 17 = .ok (.iload_n 1, 1) := by decide +kernel
theorem d_E_write_18 : decode c_E_write 18 = .ok (.invokevirtual 98, 3) := by decide +kernel
theorem d_E_write_21 : decode c_E_write 21 = .ok (.astore 4, 2) := by decide +kernel
theorem d_E_write_23 : decode c_E_write 23 = .ok (.aload 4, 2) := by decide +kernel
theorem d_E_write_25 : decode c_E_write 25 = .ok (.ifnull 16, 3) := by decide +kernel
theorem d_E_write_28 : decode c_E_write 28 = .ok (.aload 4, 2) := by decide +kernel
theorem d_E_write_30 : decode c_E_write 30 = .ok (.iload_n 2, 1) := by decide +kernel
theorem d_E_write_31 : decode c_E_write 31 = .ok (.invokevirtual 168, 3) := by decide +kernel
theorem d_E_write_34 : decode c_E_write 34 = .ok (.ifCond .eq 7, 3) := by decide +kernel
theorem d_E_write_37 : decode c_E_write 37 = .ok (.iload_n 3, 1) := by decide +kernel
theorem d_E_write_38 : decode c_E_write 38 = .ok (.ifCond .ge 5, 3) := by decide +kernel
theorem d_E_write_41 : decode c_E_write 41 = .ok (.iconst (-1), 1) := by decide +kernel
theorem d_E_write_42 : decode c_E_write 42 = .ok (.ireturn, 1) := by decide +kernel
theorem d_E_write_43 : decode c_E_write 43 = .ok (.aload 4, 2) := by decide +kernel
theorem d_E_write_45 : decode c_E_write 45 = .ok (.iload_n 2, 1) := by decide +kernel
theorem d_E_write_46 : decode c_E_write 46 = .ok (.invokevirtual 171, 3) := by decide +kernel
theorem d_E_write_49 : decode c_E_write 49 = .ok (.istore 5, 2) := by decide +kernel
theorem d_E_write_51 : decode c_E_write 51 = .ok (.aload 4, 2) := by decide +kernel
theorem d_E_write_53 : decode c_E_write 53 = .ok (.iload_n 2, 1) := by decide +kernel
theorem d_E_write_54 : decode c_E_write 54 = .ok (.invokevirtual 174, 3) := by decide +kernel
theorem d_E_write_57 : decode c_E_write 57 = .ok (.istore 6, 2) := by decide +kernel
theorem d_E_write_59 : decode c_E_write 59 = .ok (.aload 4, 2) := by decide +kernel
theorem d_E_write_61 : decode c_E_write 61 = .ok (.getfield 125, 3) := by decide +kernel
theorem d_E_write_64 : decode c_E_write 64 = .ok (.iload 5, 2) := by decide +kernel
theorem d_E_write_66 : decode c_E_write 66 = .ok (.iaload, 1) := by decide +kernel
theorem d_E_write_67 : decode c_E_write 67 = .ok (.istore 7, 2) := by decide +kernel
theorem d_E_write_69 : decode c_E_write 69 = .ok (.aload_n 0, 1) := by decide +kernel
theorem d_E_write_70 : decode c_E_write 70 = .ok (.iload_n 1, 1) := by decide +kernel
theorem d_E_write_71 : decode c_E_write 71 = .ok (.iload 5, 2) := by decide +kernel
theorem d_E_write_73 : decode c_E_write 73 = .ok (.iload 6, 2) := by decide +kernel
theorem d_E_write_75 : decode c_E_write 75 = .ok (.invokevirtual 177, 3) := by decide +kernel
theorem d_E_write_78 : decode c_E_write 78 = .ok (.istore 8, 2) := by decide +kernel
theorem d_E_write_80 : decode c_E_write 80 = .ok (.aload_n 0, 1) := by decide +kernel
theorem d_E_write_81 : decode c_E_write 81 = .ok (.iload 7, 2) := by decide +kernel
theorem d_E_write_83 : decode c_E_write 83 = .ok (.invokevirtual 128, 3) := by decide +kernel
theorem d_E_write_86 : decode c_E_write 86 = .ok (.getfield 132, 3) := by decide +kernel
theorem d_E_write_89 : decode c_E_write 89 = .ok (.ifCond .eq 21, 3) := by decide +kernel
theorem d_E_write_92 : decode c_E_write 92 = .ok (.iload 8, 2) := by decide +kernel
theorem d_E_write_94 : decode c_E_write 94 = .ok (.iconst (-1), 1) := by decide +kernel
theorem d_E_write_95 : decode c_E_write 95 = .ok (.if_icmp .eq 18, 3) := by decide +kernel
theorem d_E_write_98 : decode c_E_write 98 = .ok (.aload_n 0, 1) := by decide +kernel
theorem d_E_write_99 : decode c_E_write 99 = .ok (.iload 8, 2) := by decide +kernel
theorem d_E_write_101 : decode c_E_write 101 = .ok (.invokevirtual 128, 3) := by decide +kernel
theorem d_E_write_104 : decode c_E_write 104 = .ok (.getfield 132, 3) := by decide +kernel
theorem d_E_write_107 : decode c_E_write 107 = .ok (.ifCond .ne 6, 3) := by decide +kernel
theorem d_E_write_110 : decode c_E_write 110 = .ok (.bipush (-6), 2) := by decide +kernel
theorem d_E_write_112 : decode c_E_write 112 = .ok (.ireturn, 1) := by decide +kernel
theorem d_E_write_113 : decode c_E_write 113 = .ok (.aload_n 0, 1) := by decide +kernel
theorem d_E_write_114 : decode c_E_write 114 = .ok (.iload 7, 2) := by decide +kernel
theorem d_E_write_116 : decode c_E_write 116 = .ok (.iload 6, 2) := by decide +kernel
theorem d_E_write_118 : decode c_E_write 118 = .ok (.iload_n 3, 1) := by decide +kernel
theorem d_E_write_119 : decode c_E_write 119 = .ok (.invokevirtual 164, 3) := by decide +kernel
theorem d_E_write_122 : decode c_E_write 122 = .ok (.ifCond .ne 6, 3) := by decide +kernel
theorem d_E_write_125 : decode c_E_write 125 = .ok (.bipush (-7), 2) := by decide +kernel
theorem d_E_write_127 : decode c_E_write 127 = .ok (.ireturn, 1) := by decide +kernel
theorem d_E_write_128 : decode c_E_write 128 = .ok (.iload 8, 2) := by decide +kernel
theorem d_E_write_130 : decode c_E_write 130 = .ok (.iconst (-1), 1) := by decide +kernel
theorem d_E_write_131 : decode c_E_write 131 = .ok (.if_icmp .ne 5, 3) := by decide +kernel
theorem d_E_write_134 : decode c_E_write 134 = .ok (.iconst 1, 1) := by decide +kernel
theorem d_E_write_135 : decode c_E_write 135 = .ok (.ireturn, 1) := by decide +kernel
theorem d_E_write_136 : decode c_E_write 136 = .ok (.aload_n 0, 1) := by decide +kernel
theorem d_E_write_137 : decode c_E_write 137 = .ok (.iload 8, 2) := by decide +kernel
theorem d_E_write_139 : decode c_E_write 139 = .ok (.iload 6, 2) := by decide +kernel
theorem d_E_write_141 : decode c_E_write 141 = .ok (.iload_n 3, 1) := by decide +kernel
theorem d_E_write_142 : decode c_E_write 142 = .ok (.invokevirtual 164, 3) := by decide +kernel
theorem d_E_write_145 : decode c_E_write 145 = .ok (.ifCond .eq 7, 3) := by decide +kernel
theorem d_E_write_148 : decode c_E_write 148 = .ok (.iconst 2, 1) := by decide +kernel
theorem d_E_write_149 : decode c_E_write 149 = .ok (.goto 5, 3) := by decide +kernel
theorem d_E_write_152 : decode c_E_write 152 = .ok (.bipush (-7), 2) := by decide +kernel
theorem d_E_write_154 : decode c_E_write 154 = .ok (.ireturn, 1) := by decide +kernel
theorem d_E_copiedTo_0 : decode c_E_copiedTo 0 = .ok (.aload_n 0, 1) := by decide +kernel
theorem d_E_copiedTo_1 : decode c_E_copiedTo 1 = .ok (.getfield 47, 3) := by decide +kernel
theorem d_E_copiedTo_4 : decode c_E_copiedTo 4 = .ok (.getfield 75, 3) := by decide +kernel
theorem d_E_copiedTo_7 : decode c_E_copiedTo 7 = .ok (.getfield 121, 3) := by decide +kernel
theorem d_E_copiedTo_10 : decode c_E_copiedTo 10 = .ok (.astore 4, 2) := by decide +kernel
theorem d_E_copiedTo_12 : decode c_E_copiedTo 12 = .ok (.aload 4, 2) := by decide +kernel
theorem d_E_copiedTo_14 : decode c_E_copiedTo 14 = .ok (.ifnull 29, 3) := by decide +kernel
theorem d_E_copiedTo_17 : decode c_E_copiedTo 17 = .ok (.aload 4, 2) := by decide +kernel
theorem d_E_copiedTo_19 : decode c_E_copiedTo 19 = .ok (.getfield 198, 3) := by decide +kernel
theorem d_E_copiedTo_22 : decode c_E_copiedTo 22 = .ok (.iload_n 1, 1) := by decide +kernel
theorem d_E_copiedTo_23 : decode c_E_copiedTo 23 = .ok (.if_icmp .ne 20, 3) := by decide +kernel
theorem d_E_copiedTo_26 : decode c_E_copiedTo 26 = .ok (.aload 4, 2) := by decide +kernel
theorem d_E_copiedTo_28 : decode c_E_copiedTo 28 = .ok (.getfield 201, 3) := by decide +kernel
theorem d_E_copiedTo_31 : decode c_E_copiedTo 31 = .ok (.iload_n 2, 1) := by decide +kernel
theorem d_E_copiedTo_32 : decode c_E_copiedTo 32 = .ok (.if_icmp .ne 11, 3) := by decide +kernel
theorem d_E_copiedTo_35 : decode c_E_copiedTo 35 = .ok (.iload_n 3, 1) := by decide +kernel
theorem d_E_copiedTo_36 : decode c_E_copiedTo 36 = .ok (.aload_n 0, 1) := by decide +kernel
theorem d_E_copiedTo_37 : decode c_E_copiedTo 37 = .ok (.getfield 51, 3) := by decide +kernel
theorem d_E_copiedTo_40 : decode c_E_copiedTo 40 = .ok (.if_icmp .lt 5, 3) := by decide +kernel
theorem d_E_copiedTo_43 : decode c_E_copiedTo 43 = .ok (.iconst (-1), 1) := by decide +kernel
theorem d_E_copiedTo_44 : decode c_E_copiedTo 44 = .ok (.ireturn, 1) := by decide +kernel
theorem d_E_copiedTo_45 : decode c_E_copiedTo 45 = .ok (.aload 4, 2) := by decide +kernel
theorem d_E_copiedTo_47 : decode c_E_copiedTo 47 = .ok (.getfield 154, 3) := by decide +kernel
theorem d_E_copiedTo_50 : decode c_E_copiedTo 50 = .ok (.ireturn, 1) := by decide +kernel
theorem d_E_pull_0 : decode c_E_pull 0 = .ok (.aload_n 0, 1) := by decide +kernel
theorem d_E_pull_1 : decode c_E_pull 1 = .ok (.iload_n 1, 1) := by decide +kernel
theorem d_E_pull_2 : decode c_E_pull 2 = .ok (.invokevirtual 118, 3) := by decide +kernel
theorem d_E_pull_5 : decode c_E_pull 5 = .ok (.ifCond .eq 15, 3) := by decide +kernel
theorem d_E_pull_8 : decode c_E_pull 8 = .ok (.aload_n 0, 1) := by decide +kernel
theorem d_E_pull_9 : decode c_E_pull 9 = .ok (.getfield 36, 3) := by decide +kernel
theorem d_E_pull_12 : decode c_E_pull 12 = .ok (.iload_n 1, 1) := by decide +kernel
theorem d_E_pull_13 : decode c_E_pull 13 = .ok (.aaload, 1) := by decide +kernel
theorem d_E_pull_14 : decode c_E_pull 14 = .ok (.getfield 132, 3) := by decide +kernel
theorem d_E_pull_17 : decode c_E_pull 17 = .ok (.ifCond .ne 5, 3) := by decide +kernel
theorem d_E_pull_20 : decode c_E_pull 20 = .ok (.iconst 0, 1) := by decide +kernel
theorem d_E_pull_21 : decode c_E_pull 21 = .ok (.ireturn, 1) := by decide +kernel
theorem d_E_pull_22 : decode c_E_pull 22 = .ok (.aload_n 0, 1) := by decide +kernel
theorem d_E_pull_23 : decode c_E_pull 23 = .ok (.getfield 36, 3) := by decide +kernel
theorem d_E_pull_26 : decode c_E_pull 26 = .ok (.iload_n 1, 1) := by decide +kernel
theorem d_E_pull_27 : decode c_E_pull 27 = .ok (.aaload, 1) := by decide +kernel
theorem d_E_pull_28 : decode c_E_pull 28 = .ok (.iconst 0, 1) := by decide +kernel
theorem d_E_pull_29 : decode c_E_pull 29 = .ok (.putfield 132, 3) := by decide +kernel
theorem d_E_pull_32 : decode c_E_pull 32 = .ok (.iconst 1, 1) := by decide +kernel
theorem d_E_pull_33 : decode c_E_pull 33 = .ok (.ireturn, 1) := by decide +kernel
theorem d_E_plug_0 : decode c_E_plug 0 = .ok (.aload_n 0, 1) := by decide +kernel
theorem d_E_plug_1 : decode c_E_plug 1 = .ok (.iload_n 1, 1) := by decide +kernel
theorem d_E_plug_2 : decode c_E_plug 2 = .ok (.invokevirtual 118, 3) := by decide +kernel
theorem d_E_plug_5 : decode c_E_plug 5 = .ok (.ifCond .eq 15, 3) := by decide +kernel
theorem d_E_plug_8 : decode c_E_plug 8 = .ok (.aload_n 0, 1) := by decide +kernel
theorem d_E_plug_9 : decode c_E_plug 9 = .ok (.getfield 36, 3) := by decide +kernel
theorem d_E_plug_12 : decode c_E_plug 12 = .ok (.iload_n 1, 1) := by decide +kernel
theorem d_E_plug_13 : decode c_E_plug 13 = .ok (.aaload, 1) := by decide +kernel
theorem d_E_plug_14 : decode c_E_plug 14 = .ok (.getfield 132, 3) := by decide +kernel
theorem d_E_plug_17 : decode c_E_plug 17 = .ok (.ifCond .eq 5, 3) := by decide +kernel
theorem d_E_plug_20 : decode c_E_plug 20 = .ok (.iconst 0, 1) := by decide +kernel
theorem d_E_plug_21 : decode c_E_plug 21 = .ok (.ireturn, 1) := by decide +kernel
theorem d_E_plug_22 : decode c_E_plug 22 = .ok (.aload_n 0, 1) := by decide +kernel
theorem d_E_plug_23 : decode c_E_plug 23 = .ok (.getfield 36, 3) := by decide +kernel
theorem d_E_plug_26 : decode c_E_plug 26 = .ok (.iload_n 1, 1) := by decide +kernel
theorem d_E_plug_27 : decode c_E_plug 27 = .ok (.aaload, 1) := by decide +kernel
theorem d_E_plug_28 : decode c_E_plug 28 = .ok (.iconst 1, 1) := by decide +kernel
theorem d_E_plug_29 : decode c_E_plug 29 = .ok (.putfield 132, 3) := by decide +kernel
theorem d_E_plug_32 : decode c_E_plug 32 = .ok (.iconst 1, 1) := by decide +kernel
theorem d_E_plug_33 : decode c_E_plug 33 = .ok (.ireturn, 1) := by decide +kernel
theorem d_E_arm_0 : decode c_E_arm 0 = .ok (.iload_n 1, 1) := by decide +kernel
theorem d_E_arm_1 : decode c_E_arm 1 = .ok (.ifCond .lt 9, 3) := by decide +kernel
theorem d_E_arm_4 : decode c_E_arm 4 = .ok (.iload_n 1, 1) := by decide +kernel
theorem d_E_arm_5 : decode c_E_arm 5 = .ok (.bipush 100, 2) := by decide +kernel
theorem d_E_arm_7 : decode c_E_arm 7 = .ok (.if_icmp .le 5, 3) := by decide +kernel
theorem d_E_arm_10 : decode c_E_arm 10 = .ok (.iconst 0, 1) := by decide +kernel
theorem d_E_arm_11 : decode c_E_arm 11 = .ok (.ireturn, 1) := by decide +kernel
theorem d_E_arm_12 : decode c_E_arm 12 = .ok (.aload_n 0, 1) := by decide +kernel
theorem d_E_arm_13 : decode c_E_arm 13 = .ok (.iload_n 1, 1) := by decide +kernel
theorem d_E_arm_14 : decode c_E_arm 14 = .ok (.putfield 64, 3) := by decide +kernel
theorem d_E_arm_17 : decode c_E_arm 17 = .ok (.iconst 1, 1) := by decide +kernel
theorem d_E_arm_18 : decode c_E_arm 18 = .ok (.ireturn, 1) := by decide +kernel
theorem d_E_crash_0 : decode c_E_crash 0 = .ok (.aload_n 0, 1) := by decide +kernel
theorem d_E_crash_1 : decode c_E_crash 1 = .ok (.getfield 60, 3) := by decide +kernel
theorem d_E_crash_4 : decode c_E_crash 4 = .ok (.ifCond .ne 5, 3) := by decide +kernel
theorem d_E_crash_7 : decode c_E_crash 7 = .ok (.iconst 0, 1) := by decide +kernel
theorem d_E_crash_8 : decode c_E_crash 8 = .ok (.ireturn, 1) := by decide +kernel
theorem d_E_crash_9 : decode c_E_crash 9 = .ok (.aload_n 0, 1) := by decide +kernel
theorem d_E_crash_10 : decode c_E_crash 10 = .ok (.invokevirtual 181, 3) := by decide +kernel
theorem d_E_crash_13 : decode c_E_crash 13 = .ok (.iconst 1, 1) := by decide +kernel
theorem d_E_crash_14 : decode c_E_crash 14 = .ok (.ireturn, 1) := by decide +kernel
theorem d_E_activate_0 : decode c_E_activate 0 = .ok (.aload_n 0, 1) := by decide +kernel
theorem d_E_activate_1 : decode c_E_activate 1 = .ok (.getfield 60, 3) := by decide +kernel
theorem d_E_activate_4 : decode c_E_activate 4 = .ok (.ifCond .eq 6, 3) := by decide +kernel
theorem d_E_activate_7 : decode c_E_activate 7 = .ok (.bipush (-9), 2) := by decide +kernel
theorem d_E_activate_9 : decode c_E_activate 9 = .ok (.ireturn, 1) := by decide +kernel
theorem d_E_activate_10 : decode c_E_activate 10 = .ok (.aload_n 0, 1) := by decide +kernel
theorem d_E_activate_11 : decode c_E_activate 11 = .ok (.invokevirtual 184, 3) := by decide +kernel
theorem d_E_activate_14 : decode c_E_activate 14 = .ok (.astore_n 1, 1) := by decide +kernel
theorem d_E_activate_15 : decode c_E_activate 15 = .ok (.aload_n 1, 1) := by decide +kernel
theorem d_E_activate_16 : decode c_E_activate 16 = .ok (.ifnonnull 6, 3) := by decide +kernel
theorem d_E_activate_19 : decode c_E_activate 19 = .ok (.bipush (-3), 2) := by decide +kernel
theorem d_E_activate_21 : decode c_E_activate 21 = .ok (.ireturn, 1) := by decide +kernel
theorem d_E_activate_22 : decode c_E_activate 22 = .ok (.iconst 0, 1) := by decide +kernel
theorem d_E_activate_23 : decode c_E_activate 23 = .ok (.istore_n 2, 1) := by decide +kernel
theorem d_E_activate_24 : decode c_E_activate 24 = .ok (.iload_n 2, 1) := by decide +kernel
theorem d_E_activate_25 : decode c_E_activate 25 = .ok (.aload_n 0, 1) := by decide +kernel
theorem d_E_activate_26 : decode c_E_activate 26 = .ok (.getfield 36, 3) := by decide +kernel
theorem d_E_activate_29 : decode c_E_activate 29 = .ok (.arraylength, 1) := by decide +kernel
theorem d_E_activate_30 : decode c_E_activate 30 = .ok (.if_icmp .ge 38, 3) := by decide +kernel
theorem d_E_activate_33 : decode c_E_activate 33 = .ok (.aload_n 0, 1) := by decide +kernel
theorem d_E_activate_34 : decode c_E_activate 34 = .ok (.getfield 36, 3) := by decide +kernel
theorem d_E_activate_37 : decode c_E_activate 37 = .ok (.iload_n 2, 1) := by decide +kernel
theorem d_E_activate_38 : decode c_E_activate 38 = .ok (.aaload, 1) := by decide +kernel
theorem d_E_activate_39 : decode c_E_activate 39 = .ok (.getfield 132, 3) := by decide +kernel
theorem d_E_activate_42 : decode c_E_activate 42 = .ok (.ifCond .eq 20, 3) := by decide +kernel
theorem d_E_activate_45 : decode c_E_activate 45 = .ok (.aload_n 0, 1) := by decide +kernel
theorem d_E_activate_46 : decode c_E_activate 46 = .ok (.aload_n 0, 1) := by decide +kernel
theorem d_E_activate_47 : decode c_E_activate 47 = .ok (.getfield 36, 3) := by decide +kernel
theorem d_E_activate_50 : decode c_E_activate 50 = .ok (.iload_n 2, 1) := by decide +kernel
theorem d_E_activate_51 : decode c_E_activate 51 = .ok (.aaload, 1) := by decide +kernel
theorem d_E_activate_52 : decode c_E_activate 52 = .ok (.aload_n 1, 1) := by decide +kernel
theorem d_E_activate_53 : decode c_E_activate 53 = .ok (.invokevirtual 188, 3) := by decide +kernel
theorem d_E_activate_56 : decode c_E_activate 56 = .ok (.ifCond .ne 6, 3) := by decide +kernel
theorem d_E_activate_59 : decode c_E_activate 59 = .ok (.bipush (-7), 2) := by decide +kernel
theorem d_E_activate_61 : decode c_E_activate 61 = .ok (.ireturn, 1) := by decide +kernel
theorem d_E_activate_62 : decode c_E_activate 62 = .ok (.iinc 2 1, 3) := by decide +kernel
theorem d_E_activate_65 : decode c_E_activate 65 = .ok (.goto (-41), 3) := by decide +kernel
theorem d_E_activate_68 : decode c_E_activate 68 = .ok (.aload_n 0, 1) := by decide +kernel
theorem d_E_activate_69 : decode c_E_activate 69 = .ok (.aload_n 1, 1) := by decide +kernel
theorem d_E_activate_70 : decode c_E_activate 70 = .ok (.putfield 47, 3) := by decide +kernel
theorem d_E_activate_73 : decode c_E_activate 73 = .ok (.aload_n 0, 1) := by decide +kernel
theorem d_E_activate_74 : decode c_E_activate 74 = .ok (.iconst 0, 1) := by decide +kernel
theorem d_E_activate_75 : decode c_E_activate 75 = .ok (.putfield 51, 3) := by decide +kernel
theorem d_E_activate_78 : decode c_E_activate 78 = .ok (.aload_n 0, 1) := by decide +kernel
theorem d_E_activate_79 : decode c_E_activate 79 = .ok (.iconst 1, 1) := by decide +kernel
theorem d_E_activate_80 : decode c_E_activate 80 = .ok (.putfield 60, 3) := by decide +kernel
theorem d_E_activate_83 : decode c_E_activate 83 = .ok (.aload_n 1, 1) := by decide +kernel
theorem d_E_activate_84 : decode c_E_activate 84 = .ok (.getfield 192, 3) := by decide +kernel
theorem d_E_activate_87 : decode c_E_activate 87 = .ok (.ireturn, 1) := by decide +kernel
theorem d_E_choose_0 : decode c_E_choose 0 = .ok (.aconst_null, 1) := by decide +kernel
theorem d_E_choose_1 : decode c_E_choose 1 = .ok (.astore_n 1, 1) := by decide +kernel
theorem d_E_choose_2 : decode c_E_choose 2 = .ok (.iconst 0, 1) := by decide +kernel
theorem d_E_choose_3 : decode c_E_choose 3 = .ok (.istore_n 2, 1) := by decide +kernel
theorem d_E_choose_4 : decode c_E_choose 4 = .ok (.iload_n 2, 1) := by decide +kernel
theorem d_E_choose_5 : decode c_E_choose 5 = .ok (.aload_n 0, 1) := by decide +kernel
theorem d_E_choose_6 : decode c_E_choose 6 = .ok (.getfield 36, 3) := by decide +kernel
theorem d_E_choose_9 : decode c_E_choose 9 = .ok (.arraylength, 1) := by decide +kernel
theorem d_E_choose_10 : decode c_E_choose 10 = .ok (.if_icmp .ge 96, 3) := by decide +kernel
theorem d_E_choose_13 : decode c_E_choose 13 = .ok (.iconst 0, 1) := by decide +kernel
theorem d_E_choose_14 : decode c_E_choose 14 = .ok (.istore_n 3, 1) := by decide +kernel
theorem d_E_choose_15 : decode c_E_choose 15 = .ok (.aload_n 0, 1) := by decide +kernel
theorem d_E_choose_16 : decode c_E_choose 16 = .ok (.getfield 36, 3) := by decide +kernel
theorem d_E_choose_19 : decode c_E_choose 19 = .ok (.iload_n 2, 1) := by decide +kernel
theorem d_E_choose_20 : decode c_E_choose 20 = .ok (.aaload, 1) := by decide +kernel
theorem d_E_choose_21 : decode c_E_choose 21 = .ok (.getfield 132, 3) := by decide +kernel
theorem d_E_choose_24 : decode c_E_choose 24 = .ok (.ifCond .eq 76, 3) := by decide +kernel
theorem d_E_choose_27 : decode c_E_choose 27 = .ok (.iload_n 3, 1) := by decide +kernel
theorem d_E_choose_28 : decode c_E_choose 28 = .ok (.iconst 3, 1) := by decide +kernel
theorem d_E_choose_29 : decode c_E_choose 29 = .ok (.if_icmp .ge 71, 3) := by decide +kernel
theorem d_E_choose_32 : decode c_E_choose 32 = .ok (.aload_n 0, 1) := by decide +kernel
theorem d_E_choose_33 : decode c_E_choose 33 = .ok (.getfield 36, 3) := by decide +kernel
theorem d_E_choose_36 : decode c_E_choose 36 = .ok (.iload_n 2, 1) := by decide +kernel
theorem d_E_choose_37 : decode c_E_choose 37 = .ok (.aaload, 1) := by decide +kernel
theorem d_E_choose_38 : decode c_E_choose 38 = .ok (.getfield 208, 3) := by decide +kernel
theorem d_E_choose_41 : decode c_E_choose 41 = .ok (.iload_n 3, 1) := by decide +kernel
theorem d_E_choose_42 : decode c_E_choose 42 = .ok (.aaload, 1) := by decide +kernel
theorem d_E_choose_43 : decode c_E_choose 43 = .ok (.astore 4, 2) := by decide +kernel
theorem d_E_choose_45 : decode c_E_choose 45 = .ok (.aload 4, 2) := by decide +kernel
theorem d_E_choose_47 : decode c_E_choose 47 = .ok (.ifnull 23, 3) := by decide +kernel
theorem d_E_choose_50 : decode c_E_choose 50 = .ok (.aload_n 1, 1) := by decide +kernel
theorem d_E_choose_51 : decode c_E_choose 51 = .ok (.ifnull 15, 3) := by decide +kernel
theorem d_E_choose_54 : decode c_E_choose 54 = .ok (.aload 4, 2) := by decide +kernel
theorem d_E_choose_56 : decode c_E_choose 56 = .ok (.getfield 192, 3) := by decide +kernel
theorem d_E_choose_59 : decode c_E_choose 59 = .ok (.aload_n 1, 1) := by decide +kernel
theorem d_E_choose_60 : decode c_E_choose 60 = .ok (.getfield 192, 3) := by decide +kernel
theorem d_E_choose_63 : decode c_E_choose 63 = .ok (.if_icmp .le 7, 3) := by decide +kernel
theorem d_E_choose_66 : decode c_E_choose 66 = .ok (.iconst 1, 1) := by decide +kernel
theorem d_E_choose_67 : decode c_E_choose 67 = .ok (.goto 4, 3) := by decide +kernel
theorem d_E_choose_70 : decode c_E_choose 70 = .ok (.iconst 0, 1) := by decide +kernel
theorem d_E_choose_71 : decode c_E_choose 71 = .ok (.istore 5, 2) := by decide +kernel
theorem d_E_choose_73 : decode c_E_choose 73 = .ok (.iload 5, 2) := by decide +kernel
theorem d_E_choose_75 : decode c_E_choose 75 = .ok (.ifCond .eq 19, 3) := by decide +kernel
theorem d_E_choose_78 : decode c_E_choose 78 = .ok (.aload_n 0, 1) := by decide +kernel
theorem d_E_choose_79 : decode c_E_choose 79 = .ok (.aload_n 0, 1) := by decide +kernel
theorem d_E_choose_80 : decode c_E_choose 80 = .ok (.aload 4, 2) := by decide +kernel
theorem d_E_choose_82 : decode c_E_choose 82 = .ok (.invokevirtual 232, 3) := by decide +kernel
theorem d_E_choose_85 : decode c_E_choose 85 = .ok (.invokevirtual 212, 3) := by decide +kernel
theorem d_E_choose_88 : decode c_E_choose 88 = .ok (.ifCond .eq 6, 3) := by decide +kernel
theorem d_E_choose_91 : decode c_E_choose 91 = .ok (.aload 4, 2) := by decide +kernel
theorem d_E_choose_93 : decode c_E_choose 93 = .ok (.astore_n 1, 1) := by decide +kernel
theorem d_E_choose_94 : decode c_E_choose 94 = .ok (.iinc 3 1, 3) := by decide +kernel
theorem d_E_choose_97 : decode c_E_choose 97 = .ok (.goto (-82), 3) := by decide +kernel
theorem d_E_choose_100 : decode c_E_choose 100 = .ok (.iinc 2 1, 3) := by decide +kernel
theorem d_E_choose_103 : decode c_E_choose 103 = .ok (.goto (-99), 3) := by decide +kernel
theorem d_E_choose_106 : decode c_E_choose 106 = .ok (.aload_n 1, 1) := by decide +kernel
theorem d_E_choose_107 : decode c_E_choose 107 = .ok (.areturn, 1) := by decide +kernel
theorem d_E_presentHolders_0 : decode c_E_presentHolders 0 = .ok (.iconst 0, 1) := by decide +kernel
theorem d_E_presentHolders_1 : decode c_E_presentHolders 1 = .ok (.istore_n 2, 1) := by decide +kernel
theorem d_E_presentHolders_2 : decode c_E_presentHolders 2 = .ok (.iconst 0, 1) := by decide +kernel
theorem d_E_presentHolders_3 : decode c_E_presentHolders 3 = .ok (.istore_n 3, 1) := by decide +kernel
theorem d_E_presentHolders_4 : decode c_E_presentHolders 4 = .ok (.iload_n 3, 1) := by decide +kernel
theorem d_E_presentHolders_5 : decode c_E_presentHolders 5 = .ok (.aload_n 0, 1) := by decide +kernel
theorem d_E_presentHolders_6 : decode c_E_presentHolders 6 = .ok (.getfield 36, 3) := by decide +kernel
theorem d_E_presentHolders_9 : decode c_E_presentHolders 9 = .ok (.arraylength, 1) := by decide +kernel
theorem d_E_presentHolders_10 : decode c_E_presentHolders 10 = .ok (.if_icmp .ge 38, 3) := by decide +kernel
theorem d_E_presentHolders_13 : decode c_E_presentHolders 13 = .ok (.aload_n 0, 1) := by decide +kernel
theorem d_E_presentHolders_14 : decode c_E_presentHolders 14 = .ok (.getfield 36, 3) := by decide +kernel
theorem d_E_presentHolders_17 : decode c_E_presentHolders 17 = .ok (.iload_n 3, 1) := by decide +kernel
theorem d_E_presentHolders_18 : decode c_E_presentHolders 18 = .ok (.aaload, 1) := by decide +kernel
theorem d_E_presentHolders_19 : decode c_E_presentHolders 19 = .ok (.getfield 132, 3) := by decide +kernel
theorem d_E_presentHolders_22 : decode c_E_presentHolders 22 = .ok (.ifCond .eq 20, 3) := by decide +kernel
theorem d_E_presentHolders_25 : decode c_E_presentHolders 25 = .ok (.aload_n 0, 1) := by decide +kernel
theorem d_E_presentHolders_26 : decode c_E_presentHolders 26 = .ok (.getfield 36, 3) := by decide +kernel
theorem d_E_presentHolders_29 : decode c_E_presentHolders 29 = .ok (.iload_n 3, 1) := by decide +kernel
theorem d_E_presentHolders_30 : decode c_E_presentHolders 30 = .ok (.aaload, 1) := by decide +kernel
theorem d_E_presentHolders_31 : decode c_E_presentHolders 31 = .ok (.aload_n 1, 1) := by decide +kernel
theorem d_E_presentHolders_32 : decode c_E_presentHolders 32 = .ok (.invokevirtual 235, 3) := by decide +kernel
theorem d_E_presentHolders_35 : decode c_E_presentHolders 35 = .ok (.iconst (-1), 1) := by decide +kernel
theorem d_E_presentHolders_36 : decode c_E_presentHolders 36 = .ok (.if_icmp .eq 6, 3) := by decide +kernel
theorem d_E_presentHolders_39 : decode c_E_presentHolders 39 = .ok (.iinc 2 1, 3) := by decide +kernel
theorem d_E_presentHolders_42 : decode c_E_presentHolders 42 = .ok (.iinc 3 1, 3) := by decide +kernel
theorem d_E_presentHolders_45 : decode c_E_presentHolders 45 = .ok (.goto (-41), 3) := by decide +kernel
theorem d_E_presentHolders_48 : decode c_E_presentHolders 48 = .ok (.iload_n 2, 1) := by decide +kernel
theorem d_E_presentHolders_49 : decode c_E_presentHolders 49 = .ok (.ireturn, 1) := by decide +kernel
theorem d_E_bringTo_0 : decode c_E_bringTo 0 = .ok (.iconst 0, 1) := by decide +kernel
theorem d_E_bringTo_1 : decode c_E_bringTo 1 = .ok (.istore_n 3, 1) := by decide +kernel
theorem d_E_bringTo_2 : decode c_E_bringTo 2 = .ok (.iload_n 3, 1) := by decide +kernel
theorem d_E_bringTo_3 : decode c_E_bringTo 3 = .ok (.iconst 3, 1) := by decide +kernel
theorem d_E_bringTo_4 : decode c_E_bringTo 4 = .ok (.if_icmp .ge 50, 3) := by decide +kernel
theorem d_E_bringTo_7 : decode c_E_bringTo 7 = .ok (.aload_n 1, 1) := by decide +kernel
theorem d_E_bringTo_8 : decode c_E_bringTo 8 = .ok (.getfield 208, 3) := by decide +kernel
theorem d_E_bringTo_11 : decode c_E_bringTo 11 = .ok (.iload_n 3, 1) := by decide +kernel
theorem d_E_bringTo_12 : decode c_E_bringTo 12 = .ok (.aaload, 1) := by decide +kernel
theorem d_E_bringTo_13 : decode c_E_bringTo 13 = .ok (.astore 4, 2) := by decide +kernel
theorem d_E_bringTo_15 : decode c_E_bringTo 15 = .ok (.aload 4, 2) := by decide +kernel
theorem d_E_bringTo_17 : decode c_E_bringTo 17 = .ok (.ifnull 31, 3) := by decide +kernel
theorem d_E_bringTo_20 : decode c_E_bringTo 20 = .ok (.aload 4, 2) := by decide +kernel
theorem d_E_bringTo_22 : decode c_E_bringTo 22 = .ok (.getfield 192, 3) := by decide +kernel
theorem d_E_bringTo_25 : decode c_E_bringTo 25 = .ok (.aload_n 2, 1) := by decide +kernel
theorem d_E_bringTo_26 : decode c_E_bringTo 26 = .ok (.getfield 192, 3) := by decide +kernel
theorem d_E_bringTo_29 : decode c_E_bringTo 29 = .ok (.if_icmp .le 19, 3) := by decide +kernel
theorem d_E_bringTo_32 : decode c_E_bringTo 32 = .ok (.aload_n 0, 1) := by decide +kernel
theorem d_E_bringTo_33 : decode c_E_bringTo 33 = .ok (.invokevirtual 218, 3) := by decide +kernel
theorem d_E_bringTo_36 : decode c_E_bringTo 36 = .ok (.ifCond .ne 5, 3) := by decide +kernel
theorem d_E_bringTo_39 : decode c_E_bringTo 39 = .ok (.iconst 0, 1) := by decide +kernel
theorem d_E_bringTo_40 : decode c_E_bringTo 40 = .ok (.ireturn, 1) := by decide +kernel
theorem d_E_bringTo_41 : decode c_E_bringTo 41 = .ok (.aload_n 1, 1) := by decide +kernel
theorem d_E_bringTo_42 : decode c_E_bringTo 42 = .ok (.getfield 208, 3) := by decide +kernel
theorem d_E_bringTo_45 : decode c_E_bringTo 45 = .ok (.iload_n 3, 1) := by decide +kernel
theorem d_E_bringTo_46 : decode c_E_bringTo 46 = .ok (.aconst_null, 1) := by decide +kernel
theorem d_E_bringTo_47 : decode c_E_bringTo 47 = .ok (.aastore, 1) := by decide +kernel
theorem d_E_bringTo_48 : decode c_E_bringTo 48 = .ok (.iinc 3 1, 3) := by decide +kernel
theorem d_E_bringTo_51 : decode c_E_bringTo 51 = .ok (.goto (-49), 3) := by decide +kernel
theorem d_E_bringTo_54 : decode c_E_bringTo 54 = .ok (.aload_n 1, 1) := by decide +kernel
theorem d_E_bringTo_55 : decode c_E_bringTo 55 = .ok (.aload_n 2, 1) := by decide +kernel
theorem d_E_bringTo_56 : decode c_E_bringTo 56 = .ok (.invokevirtual 235, 3) := by decide +kernel
theorem d_E_bringTo_59 : decode c_E_bringTo 59 = .ok (.iconst (-1), 1) := by decide +kernel
theorem d_E_bringTo_60 : decode c_E_bringTo 60 = .ok (.if_icmp .ne 16, 3) := by decide +kernel
theorem d_E_bringTo_63 : decode c_E_bringTo 63 = .ok (.aload_n 0, 1) := by decide +kernel
theorem d_E_bringTo_64 : decode c_E_bringTo 64 = .ok (.aload_n 1, 1) := by decide +kernel
theorem d_E_bringTo_65 : decode c_E_bringTo 65 = .ok (.aload_n 1, 1) := by decide +kernel
theorem d_E_bringTo_66 : decode c_E_bringTo 66 = .ok (.getfield 221, 3) := by decide +kernel
theorem d_E_bringTo_69 : decode c_E_bringTo 69 = .ok (.aload_n 2, 1) := by decide +kernel
theorem d_E_bringTo_70 : decode c_E_bringTo 70 = .ok (.invokevirtual 228, 3) := by decide +kernel
theorem d_E_bringTo_73 : decode c_E_bringTo 73 = .ok (.ifCond .eq 7, 3) := by decide +kernel
theorem d_E_bringTo_76 : decode c_E_bringTo 76 = .ok (.iconst 1, 1) := by decide +kernel
theorem d_E_bringTo_77 : decode c_E_bringTo 77 = .ok (.goto 4, 3) := by decide +kernel
theorem d_E_bringTo_80 : decode c_E_bringTo 80 = .ok (.iconst 0, 1) := by decide +kernel
theorem d_E_bringTo_81 : decode c_E_bringTo 81 = .ok (.ireturn, 1) := by decide +kernel
theorem d_E_where_0 : decode c_E_where 0 = .ok (.aload_n 0, 1) := by decide +kernel
theorem d_E_where_1 : decode c_E_where 1 = .ok (.getfield 60, 3) := by decide +kernel
theorem d_E_where_4 : decode c_E_where 4 = .ok (.ifCond .ne 6, 3) := by decide +kernel
theorem d_E_where_7 : decode c_E_where 7 = .ok (.bipush (-2), 2) := by decide +kernel
theorem d_E_where_9 : decode c_E_where 9 = .ok (.ireturn, 1) := by decide +kernel
theorem d_E_where_10 : decode c_E_where 10 = .ok (.aload_n 0, 1) := by decide +kernel
theorem d_E_where_11 : decode c_E_where 11 = .ok (.getfield 47, 3) := by decide +kernel
theorem d_E_where_14 : decode c_E_where 14 = .ok (.getfield 75, 3) := by decide +kernel
theorem d_E_where_17 : decode c_E_where 17 = .ok (.iload_n 1, 1) := by decide +kernel
theorem d_E_where_18 : decode c_E_where 18 = .ok (.invokevirtual 98, 3) := by decide +kernel
theorem d_E_where_21 : decode c_E_where 21 = .ok (.astore_n 3, 1) := by decide +kernel
theorem d_E_where_22 : decode c_E_where 22 = .ok (.aload_n 3, 1) := by decide +kernel
theorem d_E_where_23 : decode c_E_where 23 = .ok (.ifnull 11, 3) := by decide +kernel
theorem d_E_where_26 : decode c_E_where 26 = .ok (.aload_n 3, 1) := by decide +kernel
theorem d_E_where_27 : decode c_E_where 27 = .ok (.iload_n 2, 1) := by decide +kernel
theorem d_E_where_28 : decode c_E_where 28 = .ok (.invokevirtual 115, 3) := by decide +kernel
theorem d_E_where_31 : decode c_E_where 31 = .ok (.ifCond .ne 7, 3) := by decide +kernel
theorem d_E_where_34 : decode c_E_where 34 = .ok (.iconst (-1), 1) := by decide +kernel
theorem d_E_where_35 : decode c_E_where 35 = .ok (.goto 9, 3) := by decide +kernel
theorem d_E_where_38 : decode c_E_where 38 = .ok (.aload_n 3, 1) := by decide +kernel
theorem d_E_where_39 : decode c_E_where 39 = .ok (.getfield 125, 3) := by decide +kernel
theorem d_E_where_42 : decode c_E_where 42 = .ok (.iload_n 2, 1) := by decide +kernel
theorem d_E_where_43 : decode c_E_where 43 = .ok (.iaload, 1) := by decide +kernel
theorem d_E_where_44 : decode c_E_where 44 = .ok (.ireturn, 1) := by decide +kernel
theorem d_E_rows_0 : decode c_E_rows 0 = .ok (.aload_n 0, 1) := by decide +kernel
theorem d_E_rows_1 : decode c_E_rows 1 = .ok (.getfield 60, 3) := by decide +kernel
theorem d_E_rows_4 : decode c_E_rows 4 = .ok (.ifCond .ne 6, 3) := by decide +kernel
theorem d_E_rows_7 : decode c_E_rows 7 = .ok (.bipush (-2), 2) := by decide +kernel
theorem d_E_rows_9 : decode c_E_rows 9 = .ok (.ireturn, 1) := by decide +kernel
theorem d_E_rows_10 : decode c_E_rows 10 = .ok (.aload_n 0, 1) := by decide +kernel
theorem d_E_rows_11 : decode c_E_rows 11 = .ok (.getfield 47, 3) := by decide +kernel
theorem d_E_rows_14 : decode c_E_rows 14 = .ok (.getfield 75, 3) := by decide +kernel
theorem d_E_rows_17 : decode c_E_rows 17 = .ok (.iload_n 1, 1) := by decide +kernel
theorem d_E_rows_18 : decode c_E_rows 18 = .ok (.invokevirtual 98, 3) := by decide +kernel
theorem d_E_rows_21 : decode c_E_rows 21 = .ok (.astore_n 2, 1) := by decide +kernel
theorem d_E_rows_22 : decode c_E_rows 22 = .ok (.aload_n 2, 1) := by decide +kernel
theorem d_E_rows_23 : decode c_E_rows 23 = .ok (.ifnonnull 7, 3) := by decide +kernel
theorem d_E_rows_26 : decode c_E_rows 26 = .ok (.iconst (-1), 1) := by decide +kernel
theorem d_E_rows_27 : decode c_E_rows 27 = .ok (.goto 7, 3) := by decide +kernel
theorem d_E_rows_30 : decode c_E_rows 30 = .ok (.aload_n 2, 1) := by decide +kernel
theorem d_E_rows_31 : decode c_E_rows 31 = .ok (.getfield 105, 3) := by decide +kernel
theorem d_E_rows_34 : decode c_E_rows 34 = .ok (.ireturn, 1) := by decide +kernel
theorem d_E_free_0 : decode c_E_free 0 = .ok (.aload_n 0, 1) := by decide +kernel
theorem d_E_free_1 : decode c_E_free 1 = .ok (.getfield 60, 3) := by decide +kernel
theorem d_E_free_4 : decode c_E_free 4 = .ok (.ifCond .ne 6, 3) := by decide +kernel
theorem d_E_free_7 : decode c_E_free 7 = .ok (.bipush (-2), 2) := by decide +kernel
theorem d_E_free_9 : decode c_E_free 9 = .ok (.ireturn, 1) := by decide +kernel
theorem d_E_free_10 : decode c_E_free 10 = .ok (.aload_n 0, 1) := by decide +kernel
theorem d_E_free_11 : decode c_E_free 11 = .ok (.iload_n 1, 1) := by decide +kernel
theorem d_E_free_12 : decode c_E_free 12 = .ok (.invokevirtual 118, 3) := by decide +kernel
theorem d_E_free_15 : decode c_E_free 15 = .ok (.ifCond .ne 5, 3) := by decide +kernel
theorem d_E_free_18 : decode c_E_free 18 = .ok (.iconst (-1), 1) := by decide +kernel
theorem d_E_free_19 : decode c_E_free 19 = .ok (.ireturn, 1) := by decide +kernel
theorem d_E_free_20 : decode c_E_free 20 = .ok (.aload_n 0, 1) := by decide +kernel
theorem d_E_free_21 : decode c_E_free 21 = .ok (.invokevirtual 135, 3) := by decide +kernel
theorem d_E_free_24 : decode c_E_free 24 = .ok (.aload_n 0, 1) := by decide +kernel
theorem d_E_free_25 : decode c_E_free 25 = .ok (.iload_n 1, 1) := by decide +kernel
theorem d_E_free_26 : decode c_E_free 26 = .ok (.invokevirtual 195, 3) := by decide +kernel
theorem d_E_free_29 : decode c_E_free 29 = .ok (.ireturn, 1) := by decide +kernel
theorem d_E_moving_0 : decode c_E_moving 0 = .ok (.aload_n 0, 1) := by decide +kernel
theorem d_E_moving_1 : decode c_E_moving 1 = .ok (.getfield 60, 3) := by decide +kernel
theorem d_E_moving_4 : decode c_E_moving 4 = .ok (.ifCond .ne 6, 3) := by decide +kernel
theorem d_E_moving_7 : decode c_E_moving 7 = .ok (.bipush (-2), 2) := by decide +kernel
theorem d_E_moving_9 : decode c_E_moving 9 = .ok (.ireturn, 1) := by decide +kernel
theorem d_E_moving_10 : decode c_E_moving 10 = .ok (.aload_n 0, 1) := by decide +kernel
theorem d_E_moving_11 : decode c_E_moving 11 = .ok (.getfield 47, 3) := by decide +kernel
theorem d_E_moving_14 : decode c_E_moving 14 = .ok (.getfield 75, 3) := by decide +kernel
theorem d_E_moving_17 : decode c_E_moving 17 = .ok (.getfield 121, 3) := by decide +kernel
theorem d_E_moving_20 : decode c_E_moving 20 = .ok (.astore_n 1, 1) := by decide +kernel
theorem d_E_moving_21 : decode c_E_moving 21 = .ok (.aload_n 1, 1) := by decide +kernel
theorem d_E_moving_22 : decode c_E_moving 22 = .ok (.ifnonnull 8, 3) := by decide +kernel
theorem d_E_moving_25 : decode c_E_moving 25 = .ok (.bipush (-8), 2) := by decide +kernel
theorem d_E_moving_27 : decode c_E_moving 27 = .ok (.goto 24, 3) := by decide +kernel
theorem d_E_moving_30 : decode c_E_moving 30 = .ok (.sipush 128, 3) := by decide +kernel
theorem d_E_moving_33 : decode c_E_moving 33 = .ok (.aload_n 1, 1) := by decide +kernel
theorem d_E_moving_34 : decode c_E_moving 34 = .ok (.getfield 198, 3) := by decide +kernel
theorem d_E_moving_37 : decode c_E_moving 37 = .ok (.imul, 1) := by decide +kernel
theorem d_E_moving_38 : decode c_E_moving 38 = .ok (.bipush 16, 2) := by decide +kernel
theorem d_E_moving_40 : decode c_E_moving 40 = .ok (.aload_n 0, 1) := by decide +kernel
theorem d_E_moving_41 : decode c_E_moving 41 = .ok (.getfield 51, 3) := by decide +kernel
theorem d_E_moving_44 : decode c_E_moving 44 = .ok (.imul, 1) := by decide +kernel
theorem d_E_moving_45 : decode c_E_moving 45 = .ok (.iadd, 1) := by decide +kernel
theorem d_E_moving_46 : decode c_E_moving 46 = .ok (.aload_n 1, 1) := by decide +kernel
theorem d_E_moving_47 : decode c_E_moving 47 = .ok (.getfield 201, 3) := by decide +kernel
theorem d_E_moving_50 : decode c_E_moving 50 = .ok (.iadd, 1) := by decide +kernel
theorem d_E_moving_51 : decode c_E_moving 51 = .ok (.ireturn, 1) := by decide +kernel
theorem d_E_sequence_0 : decode c_E_sequence 0 = .ok (.aload_n 0, 1) := by decide +kernel
theorem d_E_sequence_1 : decode c_E_sequence 1 = .ok (.getfield 60, 3) := by decide +kernel
theorem d_E_sequence_4 : decode c_E_sequence 4 = .ok (.ifCond .eq 13, 3) := by decide +kernel
theorem d_E_sequence_7 : decode c_E_sequence 7 = .ok (.aload_n 0, 1) := by decide +kernel
theorem d_E_sequence_8 : decode c_E_sequence 8 = .ok (.getfield 47, 3) := by decide +kernel
theorem d_E_sequence_11 : decode c_E_sequence 11 = .ok (.getfield 192, 3) := by decide +kernel
theorem d_E_sequence_14 : decode c_E_sequence 14 = .ok (.goto 5, 3) := by decide +kernel
theorem d_E_sequence_17 : decode c_E_sequence 17 = .ok (.bipush (-2), 2) := by decide +kernel
theorem d_E_sequence_19 : decode c_E_sequence 19 = .ok (.ireturn, 1) := by decide +kernel
theorem d_E_slot_0 : decode c_E_slot 0 = .ok (.aload_n 0, 1) := by decide +kernel
theorem d_E_slot_1 : decode c_E_slot 1 = .ok (.iload_n 1, 1) := by decide +kernel
theorem d_E_slot_2 : decode c_E_slot 2 = .ok (.invokevirtual 118, 3) := by decide +kernel
theorem d_E_slot_5 : decode c_E_slot 5 = .ok (.ifCond .eq 12, 3) := by decide +kernel
theorem d_E_slot_8 : decode c_E_slot 8 = .ok (.iload_n 2, 1) := by decide +kernel
theorem d_E_slot_9 : decode c_E_slot 9 = .ok (.ifCond .lt 8, 3) := by decide +kernel
theorem d_E_slot_12 : decode c_E_slot 12 = .ok (.iload_n 2, 1) := by decide +kernel
theorem d_E_slot_13 : decode c_E_slot 13 = .ok (.iconst 3, 1) := by decide +kernel
theorem d_E_slot_14 : decode c_E_slot 14 = .ok (.if_icmp .lt 5, 3) := by decide +kernel
theorem d_E_slot_17 : decode c_E_slot 17 = .ok (.iconst (-1), 1) := by decide +kernel
theorem d_E_slot_18 : decode c_E_slot 18 = .ok (.ireturn, 1) := by decide +kernel
theorem d_E_slot_19 : decode c_E_slot 19 = .ok (.aload_n 0, 1) := by decide +kernel
theorem d_E_slot_20 : decode c_E_slot 20 = .ok (.getfield 36, 3) := by decide +kernel
theorem d_E_slot_23 : decode c_E_slot 23 = .ok (.iload_n 1, 1) := by decide +kernel
theorem d_E_slot_24 : decode c_E_slot 24 = .ok (.aaload, 1) := by decide +kernel
theorem d_E_slot_25 : decode c_E_slot 25 = .ok (.getfield 204, 3) := by decide +kernel
theorem d_E_slot_28 : decode c_E_slot 28 = .ok (.iload_n 2, 1) := by decide +kernel
theorem d_E_slot_29 : decode c_E_slot 29 = .ok (.baload, 1) := by decide +kernel
theorem d_E_slot_30 : decode c_E_slot 30 = .ok (.ifCond .eq 6, 3) := by decide +kernel
theorem d_E_slot_33 : decode c_E_slot 33 = .ok (.bipush (-11), 2) := by decide +kernel
theorem d_E_slot_35 : decode c_E_slot 35 = .ok (.ireturn, 1) := by decide +kernel
theorem d_E_slot_36 : decode c_E_slot 36 = .ok (.aload_n 0, 1) := by decide +kernel
theorem d_E_slot_37 : decode c_E_slot 37 = .ok (.getfield 36, 3) := by decide +kernel
theorem d_E_slot_40 : decode c_E_slot 40 = .ok (.iload_n 1, 1) := by decide +kernel
theorem d_E_slot_41 : decode c_E_slot 41 = .ok (.aaload, 1) := by decide +kernel
theorem d_E_slot_42 : decode c_E_slot 42 = .ok (.getfield 208, 3) := by decide +kernel
theorem d_E_slot_45 : decode c_E_slot 45 = .ok (.iload_n 2, 1) := by decide +kernel
theorem d_E_slot_46 : decode c_E_slot 46 = .ok (.aaload, 1) := by decide +kernel
theorem d_E_slot_47 : decode c_E_slot 47 = .ok (.astore_n 3, 1) := by decide +kernel
theorem d_E_slot_48 : decode c_E_slot 48 = .ok (.aload_n 3, 1) := by decide +kernel
theorem d_E_slot_49 : decode c_E_slot 49 = .ok (.ifnonnull 7, 3) := by decide +kernel
theorem d_E_slot_52 : decode c_E_slot 52 = .ok (.iconst 0, 1) := by decide +kernel
theorem d_E_slot_53 : decode c_E_slot 53 = .ok (.goto 7, 3) := by decide +kernel
theorem d_E_slot_56 : decode c_E_slot 56 = .ok (.aload_n 3, 1) := by decide +kernel
theorem d_E_slot_57 : decode c_E_slot 57 = .ok (.getfield 192, 3) := by decide +kernel
theorem d_E_slot_60 : decode c_E_slot 60 = .ok (.ireturn, 1) := by decide +kernel
