theorem d_M_init_0 : decode c_M_init 0 = .ok (.aload_n 0, 1) := by decide +kernel
theorem d_M_init_1 : decode c_M_init 1 = .ok (.invokespecial 1, 3) := by decide +kernel
theorem d_M_init_4 : decode c_M_init 4 = .ok (.aload_n 0, 1) := by decide +kernel
theorem d_M_init_5 : decode c_M_init 5 = .ok (.iconst 5, 1) := by decide +kernel
theorem d_M_init_6 : decode c_M_init 6 = .ok (.newarray .boolean, 2) := by decide +kernel
theorem d_M_init_8 : decode c_M_init 8 = .ok (.putfield 7, 3) := by decide +kernel
theorem d_M_init_11 : decode c_M_init 11 = .ok (.aload_n 0, 1) := by decide +kernel
theorem d_M_init_12 : decode c_M_init 12 = .ok (.sipush 320, 3) := by decide +kernel
theorem d_M_init_15 : decode c_M_init 15 = .ok (.newarray .int, 2) := by decide +kernel
theorem d_M_init_17 : decode c_M_init 17 = .ok (.putfield 13, 3) := by decide +kernel
theorem d_M_init_20 : decode c_M_init 20 = .ok (.aload_n 0, 1) := by decide +kernel
theorem d_M_init_21 : decode c_M_init 21 = .ok (.sipush 1088, 3) := by decide +kernel
theorem d_M_init_24 : decode c_M_init 24 = .ok (.newarray .int, 2) := by decide +kernel
theorem d_M_init_26 : decode c_M_init 26 = .ok (.putfield 17, 3) := by decide +kernel
theorem d_M_init_29 : decode c_M_init 29 = .ok (.aload_n 0, 1) := by decide +kernel
theorem d_M_init_30 : decode c_M_init 30 = .ok (.bipush 15, 2) := by decide +kernel
theorem d_M_init_32 : decode c_M_init 32 = .ok (.newarray .int, 2) := by decide +kernel
theorem d_M_init_34 : decode c_M_init 34 = .ok (.putfield 20, 3) := by decide +kernel
theorem d_M_init_37 : decode c_M_init 37 = .ok (.aload_n 0, 1) := by decide +kernel
theorem d_M_init_38 : decode c_M_init 38 = .ok (.bipush 15, 2) := by decide +kernel
theorem d_M_init_40 : decode c_M_init 40 = .ok (.newarray .int, 2) := by decide +kernel
theorem d_M_init_42 : decode c_M_init 42 = .ok (.putfield 23, 3) := by decide +kernel
theorem d_M_init_45 : decode c_M_init 45 = .ok (.aload_n 0, 1) := by decide +kernel
theorem d_M_init_46 : decode c_M_init 46 = .ok (.iconst 5, 1) := by decide +kernel
theorem d_M_init_47 : decode c_M_init 47 = .ok (.newarray .int, 2) := by decide +kernel
theorem d_M_init_49 : decode c_M_init 49 = .ok (.putfield 26, 3) := by decide +kernel
theorem d_M_init_52 : decode c_M_init 52 = .ok (.aload_n 0, 1) := by decide +kernel
theorem d_M_init_53 : decode c_M_init 53 = .ok (.iload_n 1, 1) := by decide +kernel
theorem d_M_init_54 : decode c_M_init 54 = .ok (.iconst 2, 1) := by decide +kernel
theorem d_M_init_55 : decode c_M_init 55 = .ok (.if_icmp .ge 7, 3) := by decide +kernel
theorem d_M_init_58 : decode c_M_init 58 = .ok (.iconst 2, 1) := by decide +kernel
theorem d_M_init_59 : decode c_M_init 59 = .ok (.goto 13, 3) := by decide +kernel
theorem d_M_init_62 : decode c_M_init 62 = .ok (.iload_n 1, 1) := by decide +kernel
theorem d_M_init_63 : decode c_M_init 63 = .ok (.iconst 5, 1) := by decide +kernel
theorem d_M_init_64 : decode c_M_init 64 = .ok (.if_icmp .le 7, 3) := by decide +kernel
theorem d_M_init_67 : decode c_M_init 67 = .ok (.iconst 5, 1) := by decide +kernel
theorem d_M_init_68 : decode c_M_init 68 = .ok (.goto 4, 3) := by decide +kernel
theorem d_M_init_71 : decode c_M_init 71 = .ok (.iload_n 1, 1) := by decide +kernel
theorem d_M_init_72 : decode c_M_init 72 = .ok (.putfield 29, 3) := by decide +kernel
theorem d_M_init_75 : decode c_M_init 75 = .ok (.aload_n 0, 1) := by decide +kernel
theorem d_M_init_76 : decode c_M_init 76 = .ok (.iload_n 2, 1) := by decide +kernel
theorem d_M_init_77 : decode c_M_init 77 = .ok (.iconst 2, 1) := by decide +kernel
theorem d_M_init_78 : decode c_M_init 78 = .ok (.if_icmp .ge 7, 3) := by decide +kernel
theorem d_M_init_81 : decode c_M_init 81 = .ok (.iconst 2, 1) := by decide +kernel
theorem d_M_init_82 : decode c_M_init 82 = .ok (.goto 15, 3) := by decide +kernel
theorem d_M_init_85 : decode c_M_init 85 = .ok (.iload_n 2, 1) := by decide +kernel
theorem d_M_init_86 : decode c_M_init 86 = .ok (.bipush 10, 2) := by decide +kernel
theorem d_M_init_88 : decode c_M_init 88 = .ok (.if_icmp .le 8, 3) := by decide +kernel
theorem d_M_init_91 : decode c_M_init 91 = .ok (.bipush 10, 2) := by decide +kernel
theorem d_M_init_93 : decode c_M_init 93 = .ok (.goto 4, 3) := by decide +kernel
theorem d_M_init_96 : decode c_M_init 96 = .ok (.iload_n 2, 1) := by decide +kernel
theorem d_M_init_97 : decode c_M_init 97 = .ok (.putfield 33, 3) := by decide +kernel
theorem d_M_init_100 : decode c_M_init 100 = .ok (.iconst 0, 1) := by decide +kernel
theorem d_M_init_101 : decode c_M_init 101 = .ok (.istore_n 3, 1) := by decide +kernel
theorem d_M_init_102 : decode c_M_init 102 = .ok (.iload_n 3, 1) := by decide +kernel
theorem d_M_init_103 : decode c_M_init 103 = .ok (.bipush 17, 2) := by decide +kernel
theorem d_M_init_105 : decode c_M_init 105 = .ok (.if_icmp .ge 22, 3) := by decide +kernel
theorem d_M_init_108 : decode c_M_init 108 = .ok (.aload_n 0, 1) := by decide +kernel
theorem d_M_init_109 : decode c_M_init 109 = .ok (.getfield 17, 3) := by decide +kernel
theorem d_M_init_112 : decode c_M_init 112 = .ok (.bipush 64, 2) := by decide +kernel
theorem d_M_init_114 : decode c_M_init 114 = .ok (.iload_n 3, 1) := by decide +kernel
theorem d_M_init_115 : decode c_M_init 115 = .ok (.imul, 1) := by decide +kernel
theorem d_M_init_116 : decode c_M_init 116 = .ok (.bipush 60, 2) := by decide +kernel
theorem d_M_init_118 : decode c_M_init 118 = .ok (.iadd, 1) := by decide +kernel
theorem d_M_init_119 : decode c_M_init 119 = .ok (.iconst (-1), 1) := by decide +kernel
theorem d_M_init_120 : decode c_M_init 120 = .ok (.iastore, 1) := by decide +kernel
theorem d_M_init_121 : decode c_M_init 121 = .ok (.iinc 3 1, 3) := by decide +kernel
theorem d_M_init_124 : decode c_M_init 124 = .ok (.goto (-22), 3) := by decide +kernel
theorem d_M_init_127 : decode c_M_init 127 = .ok (.iconst 0, 1) := by decide +kernel
theorem d_M_init_128 : decode c_M_init 128 = .ok (.istore_n 3, 1) := by decide +kernel
theorem d_M_init_129 : decode c_M_init 129 = .ok (.iload_n 3, 1) := by decide +kernel
theorem d_M_init_130 : decode c_M_init 130 = .ok (.aload_n 0, 1) := by decide +kernel
theorem d_M_init_131 : decode c_M_init 131 = .ok (.getfield 29, 3) := by decide +kernel
theorem d_M_init_134 : decode c_M_init 134 = .ok (.if_icmp .ge 41, 3) := by decide +kernel
theorem d_M_init_137 : decode c_M_init 137 = .ok (.aload_n 0, 1) := by decide +kernel
theorem d_M_init_138 : decode c_M_init 138 = .ok (.getfield 7, 3) := by decide +kernel
theorem d_M_init_141 : decode c_M_init 141 = .ok (.iload_n 3, 1) := by decide +kernel
theorem d_M_init_142 : decode c_M_init 142 = .ok (.iconst 1, 1) := by decide +kernel
theorem d_M_init_143 : decode c_M_init 143 = .ok (.bastore, 1) := by decide +kernel
theorem d_M_init_144 : decode c_M_init 144 = .ok (.aload_n 0, 1) := by decide +kernel
theorem d_M_init_145 : decode c_M_init 145 = .ok (.getfield 20, 3) := by decide +kernel
theorem d_M_init_148 : decode c_M_init 148 = .ok (.iconst 3, 1) := by decide +kernel
theorem d_M_init_149 : decode c_M_init 149 = .ok (.iload_n 3, 1) := by decide +kernel
theorem d_M_init_150 : decode c_M_init 150 = .ok (.imul, 1) := by decide +kernel
theorem d_M_init_151 : decode c_M_init 151 = .ok (.iconst 1, 1) := by decide +kernel
theorem d_M_init_152 : decode c_M_init 152 = .ok (.iastore, 1) := by decide +kernel
theorem d_M_init_153 : decode c_M_init 153 = .ok (.aload_n 0, 1) := by decide +kernel
theorem d_M_init_154 : decode c_M_init 154 = .ok (.getfield 23, 3) := by decide +kernel
theorem d_M_init_157 : decode c_M_init 157 = .ok (.iconst 3, 1) := by decide +kernel
theorem d_M_init_158 : decode c_M_init 158 = .ok (.iload_n 3, 1) := by decide +kernel
theorem d_M_init_159 : decode c_M_init 159 = .ok (.imul, 1) := by decide +kernel
theorem d_M_init_160 : decode c_M_init 160 = .ok (.iconst 1, 1) := by decide +kernel
theorem d_M_init_161 : decode c_M_init 161 = .ok (.iastore, 1) := by decide +kernel
theorem d_M_init_162 : decode c_M_init 162 = .ok (.aload_n 0, 1) := by decide +kernel
theorem d_M_init_163 : decode c_M_init 163 = .ok (.getfield 26, 3) := by decide +kernel
theorem d_M_init_166 : decode c_M_init 166 = .ok (.iload_n 3, 1) := by decide +kernel
theorem d_M_init_167 : decode c_M_init 167 = .ok (.iconst 1, 1) := by decide +kernel
theorem d_M_init_168 : decode c_M_init 168 = .ok (.iastore, 1) := by decide +kernel
theorem d_M_init_169 : decode c_M_init 169 = .ok (.iinc 3 1, 3) := by decide +kernel
theorem d_M_init_172 : decode c_M_init 172 = .ok (.goto (-43), 3) := by decide +kernel
theorem d_M_init_175 : decode c_M_init 175 = .ok (.aload_n 0, 1) := by decide +kernel
theorem d_M_init_176 : decode c_M_init 176 = .ok (.iconst 1, 1) := by decide +kernel
theorem d_M_init_177 : decode c_M_init 177 = .ok (.putfield 36, 3) := by decide +kernel
theorem d_M_init_180 : decode c_M_init 180 = .ok (.aload_n 0, 1) := by decide +kernel
theorem d_M_init_181 : decode c_M_init 181 = .ok (.iconst 1, 1) := by decide +kernel
theorem d_M_init_182 : decode c_M_init 182 = .ok (.putfield 39, 3) := by decide +kernel
theorem d_M_init_185 : decode c_M_init 185 = .ok (.aload_n 0, 1) := by decide +kernel
theorem d_M_init_186 : decode c_M_init 186 = .ok (.iconst 1, 1) := by decide +kernel
theorem d_M_init_187 : decode c_M_init 187 = .ok (.putfield 42, 3) := by decide +kernel
theorem d_M_init_190 : decode c_M_init 190 = .ok (.aload_n 0, 1) := by decide +kernel
theorem d_M_init_191 : decode c_M_init 191 = .ok (.iconst 1, 1) := by decide +kernel
theorem d_M_init_192 : decode c_M_init 192 = .ok (.putfield 45, 3) := by decide +kernel
theorem d_M_init_195 : decode c_M_init 195 = .ok (.return_, 1) := by decide +kernel
theorem d_M_create_0 : decode c_M_create 0 = .ok (.aload_n 0, 1) := by decide +kernel
theorem d_M_create_1 : decode c_M_create 1 = .ok (.getfield 45, 3) := by decide +kernel
theorem d_M_create_4 : decode c_M_create 4 = .ok (.ifCond .ne 6, 3) := by decide +kernel
theorem d_M_create_7 : decode c_M_create 7 = .ok (.bipush (-2), 2) := by decide +kernel
theorem d_M_create_9 : decode c_M_create 9 = .ok (.ireturn, 1) := by decide +kernel
theorem d_M_create_10 : decode c_M_create 10 = .ok (.iload_n 1, 1) := by decide +kernel
theorem d_M_create_11 : decode c_M_create 11 = .ok (.iconst 1, 1) := by decide +kernel
theorem d_M_create_12 : decode c_M_create 12 = .ok (.if_icmp .lt 36, 3) := by decide +kernel
theorem d_M_create_15 : decode c_M_create 15 = .ok (.iload_n 1, 1) := by decide +kernel
theorem d_M_create_16 : decode c_M_create 16 = .ok (.iconst 4, 1) := by decide +kernel
theorem d_M_create_17 : decode c_M_create 17 = .ok (.if_icmp .gt 31, 3) := by decide +kernel
theorem d_M_create_20 : decode c_M_create 20 = .ok (.iload_n 2, 1) := by decide +kernel
theorem d_M_create_21 : decode c_M_create 21 = .ok (.iconst 1, 1) := by decide +kernel
theorem d_M_create_22 : decode c_M_create 22 = .ok (.if_icmp .eq 13, 3) := by decide +kernel
theorem d_M_create_25 : decode c_M_create 25 = .ok (.iload_n 2, 1) := by decide +kernel
theorem d_M_create_26 : decode c_M_create 26 = .ok (.iconst 2, 1) := by decide +kernel
theorem d_M_create_27 : decode c_M_create 27 = .ok (.if_icmp .eq 8, 3) := by decide +kernel
theorem d_M_create_30 : decode c_M_create 30 = .ok (.iload_n 2, 1) := by decide +kernel
theorem d_M_create_31 : decode c_M_create 31 = .ok (.iconst 4, 1) := by decide +kernel
theorem d_M_create_32 : decode c_M_create 32 = .ok (.if_icmp .ne 16, 3) := by decide +kernel
theorem d_M_create_35 : decode c_M_create 35 = .ok (.iload_n 3, 1) := by decide +kernel
theorem d_M_create_36 : decode c_M_create 36 = .ok (.iconst 1, 1) := by decide +kernel
theorem d_M_create_37 : decode c_M_create 37 = .ok (.if_icmp .lt 11, 3) := by decide +kernel
theorem d_M_create_40 : decode c_M_create 40 = .ok (.iload_n 3, 1) := by decide +kernel
theorem d_M_create_41 : decode c_M_create 41 = .ok (.bipush 12, 2) := by decide +kernel
theorem d_M_create_43 : decode c_M_create 43 = .ok (.iload_n 1, 1) := by decide +kernel
theorem d_M_create_44 : decode c_M_create 44 = .ok (.idiv, 1) := by decide +kernel
theorem d_M_create_45 : decode c_M_create 45 = .ok (.if_icmp .le 5, 3) := by decide +kernel
theorem d_M_create_48 : decode c_M_create 48 = .ok (.iconst (-1), 1) := by decide +kernel
theorem d_M_create_49 : decode c_M_create 49 = .ok (.ireturn, 1) := by decide +kernel
theorem d_M_create_50 : decode c_M_create 50 = .ok (.aload_n 0, 1) := by decide +kernel
theorem d_M_create_51 : decode c_M_create 51 = .ok (.invokevirtual 108, 3) := by decide +kernel
theorem d_M_create_54 : decode c_M_create 54 = .ok (.ifCond .eq 6, 3) := by decide +kernel
theorem d_M_create_57 : decode c_M_create 57 = .ok (.bipush (-3), 2) := by decide +kernel
theorem d_M_create_59 : decode c_M_create 59 = .ok (.ireturn, 1) := by decide +kernel
theorem d_M_create_60 : decode c_M_create 60 = .ok (.iconst 0, 1) := by decide +kernel
theorem d_M_create_61 : decode c_M_create 61 = .ok (.istore 4, 2) := by decide +kernel
theorem d_M_create_63 : decode c_M_create 63 = .ok (.iload 4, 2) := by decide +kernel
theorem d_M_create_65 : decode c_M_create 65 = .ok (.iconst 4, 1) := by decide +kernel
theorem d_M_create_66 : decode c_M_create 66 = .ok (.if_icmp .ge 20, 3) := by decide +kernel
theorem d_M_create_69 : decode c_M_create 69 = .ok (.aload_n 0, 1) := by decide +kernel
theorem d_M_create_70 : decode c_M_create 70 = .ok (.bipush 15, 2) := by decide +kernel
theorem d_M_create_72 : decode c_M_create 72 = .ok (.iload 4, 2) := by decide +kernel
theorem d_M_create_74 : decode c_M_create 74 = .ok (.invokevirtual 53, 3) := by decide +kernel
theorem d_M_create_77 : decode c_M_create 77 = .ok (.ifCond .le 9, 3) := by decide +kernel
theorem d_M_create_80 : decode c_M_create 80 = .ok (.iinc 4 1, 3) := by decide +kernel
theorem d_M_create_83 : decode c_M_create 83 = .ok (.goto (-20), 3) := by decide +kernel
theorem d_M_create_86 : decode c_M_create 86 = .ok (.iload 4, 2) := by decide +kernel
theorem d_M_create_88 : decode c_M_create 88 = .ok (.iconst 4, 1) := by decide +kernel
theorem d_M_create_89 : decode c_M_create 89 = .ok (.if_icmp .ne 6, 3) := by decide +kernel
theorem d_M_create_92 : decode c_M_create 92 = .ok (.bipush (-10), 2) := by decide +kernel
theorem d_M_create_94 : decode c_M_create 94 = .ok (.ireturn, 1) := by decide +kernel
theorem d_M_create_95 : decode c_M_create 95 = .ok (.aload_n 0, 1) := by decide +kernel
theorem d_M_create_96 : decode c_M_create 96 = .ok (.bipush 15, 2) := by decide +kernel
theorem d_M_create_98 : decode c_M_create 98 = .ok (.bipush 16, 2) := by decide +kernel
theorem d_M_create_100 : decode c_M_create 100 = .ok (.invokevirtual 90, 3) := by decide +kernel
theorem d_M_create_103 : decode c_M_create 103 = .ok (.aload_n 0, 1) := by decide +kernel
theorem d_M_create_104 : decode c_M_create 104 = .ok (.bipush 16, 2) := by decide +kernel
theorem d_M_create_106 : decode c_M_create 106 = .ok (.bipush 15, 2) := by decide +kernel
theorem d_M_create_108 : decode c_M_create 108 = .ok (.iload 4, 2) := by decide +kernel
theorem d_M_create_110 : decode c_M_create 110 = .ok (.imul, 1) := by decide +kernel
theorem d_M_create_111 : decode c_M_create 111 = .ok (.iload_n 1, 1) := by decide +kernel
theorem d_M_create_112 : decode c_M_create 112 = .ok (.invokevirtual 76, 3) := by decide +kernel
theorem d_M_create_115 : decode c_M_create 115 = .ok (.aload_n 0, 1) := by decide +kernel
theorem d_M_create_116 : decode c_M_create 116 = .ok (.bipush 16, 2) := by decide +kernel
theorem d_M_create_118 : decode c_M_create 118 = .ok (.bipush 15, 2) := by decide +kernel
theorem d_M_create_120 : decode c_M_create 120 = .ok (.iload 4, 2) := by decide +kernel
theorem d_M_create_122 : decode c_M_create 122 = .ok (.imul, 1) := by decide +kernel
theorem d_M_create_123 : decode c_M_create 123 = .ok (.iconst 1, 1) := by decide +kernel
theorem d_M_create_124 : decode c_M_create 124 = .ok (.iadd, 1) := by decide +kernel
theorem d_M_create_125 : decode c_M_create 125 = .ok (.iload_n 2, 1) := by decide +kernel
theorem d_M_create_126 : decode c_M_create 126 = .ok (.invokevirtual 76, 3) := by decide +kernel
theorem d_M_create_129 : decode c_M_create 129 = .ok (.aload_n 0, 1) := by decide +kernel
theorem d_M_create_130 : decode c_M_create 130 = .ok (.bipush 16, 2) := by decide +kernel
theorem d_M_create_132 : decode c_M_create 132 = .ok (.bipush 15, 2) := by decide +kernel
theorem d_M_create_134 : decode c_M_create 134 = .ok (.iload 4, 2) := by decide +kernel
theorem d_M_create_136 : decode c_M_create 136 = .ok (.imul, 1) := by decide +kernel
theorem d_M_create_137 : decode c_M_create 137 = .ok (.iconst 2, 1) := by decide +kernel
theorem d_M_create_138 : decode c_M_create 138 = .ok (.iadd, 1) := by decide +kernel
theorem d_M_create_139 : decode c_M_create 139 = .ok (.iconst 0, 1) := by decide +kernel
theorem d_M_create_140 : decode c_M_create 140 = .ok (.invokevirtual 76, 3) := by decide +kernel
theorem d_M_create_143 : decode c_M_create 143 = .ok (.iconst 0, 1) := by decide +kernel
theorem d_M_create_144 : decode c_M_create 144 = .ok (.istore 5, 2) := by decide +kernel
theorem d_M_create_146 : decode c_M_create 146 = .ok (.iload 5, 2) := by decide +kernel
theorem d_M_create_148 : decode c_M_create 148 = .ok (.iload_n 3, 1) := by decide +kernel
theorem d_M_create_149 : decode c_M_create 149 = .ok (.if_icmp .ge 21, 3) := by decide +kernel
theorem d_M_create_152 : decode c_M_create 152 = .ok (.aload_n 0, 1) := by decide +kernel
theorem d_M_create_153 : decode c_M_create 153 = .ok (.iload 4, 2) := by decide +kernel
theorem d_M_create_155 : decode c_M_create 155 = .ok (.invokevirtual 111, 3) := by decide +kernel
theorem d_M_create_158 : decode c_M_create 158 = .ok (.ifCond .ne 6, 3) := by decide +kernel
theorem d_M_create_161 : decode c_M_create 161 = .ok (.bipush (-5), 2) := by decide +kernel
theorem d_M_create_163 : decode c_M_create 163 = .ok (.ireturn, 1) := by decide +kernel
theorem d_M_create_164 : decode c_M_create 164 = .ok (.iinc 5 1, 3) := by decide +kernel
theorem d_M_create_167 : decode c_M_create 167 = .ok (.goto (-21), 3) := by decide +kernel
theorem d_M_create_170 : decode c_M_create 170 = .ok (.aload_n 0, 1) := by decide +kernel
theorem d_M_create_171 : decode c_M_create 171 = .ok (.invokevirtual 114, 3) := by decide +kernel
theorem d_M_create_174 : decode c_M_create 174 = .ok (.ifCond .eq 8, 3) := by decide +kernel
theorem d_M_create_177 : decode c_M_create 177 = .ok (.iload 4, 2) := by decide +kernel
theorem d_M_create_179 : decode c_M_create 179 = .ok (.goto 5, 3) := by decide +kernel
theorem d_M_create_182 : decode c_M_create 182 = .ok (.bipush (-7), 2) := by decide +kernel
theorem d_M_create_184 : decode c_M_create 184 = .ok (.ireturn, 1) := by decide +kernel
theorem d_M_few_0 : decode c_M_few 0 = .ok (.iconst 0, 1) := by decide +kernel
theorem d_M_few_1 : decode c_M_few 1 = .ok (.istore_n 1, 1) := by decide +kernel
theorem d_M_few_2 : decode c_M_few 2 = .ok (.iconst 0, 1) := by decide +kernel
theorem d_M_few_3 : decode c_M_few 3 = .ok (.istore_n 2, 1) := by decide +kernel
theorem d_M_few_4 : decode c_M_few 4 = .ok (.iload_n 2, 1) := by decide +kernel
theorem d_M_few_5 : decode c_M_few 5 = .ok (.aload_n 0, 1) := by decide +kernel
theorem d_M_few_6 : decode c_M_few 6 = .ok (.getfield 29, 3) := by decide +kernel
theorem d_M_few_9 : decode c_M_few 9 = .ok (.if_icmp .ge 26, 3) := by decide +kernel
theorem d_M_few_12 : decode c_M_few 12 = .ok (.iload_n 1, 1) := by decide +kernel
theorem d_M_few_13 : decode c_M_few 13 = .ok (.aload_n 0, 1) := by decide +kernel
theorem d_M_few_14 : decode c_M_few 14 = .ok (.getfield 7, 3) := by decide +kernel
theorem d_M_few_17 : decode c_M_few 17 = .ok (.iload_n 2, 1) := by decide +kernel
theorem d_M_few_18 : decode c_M_few 18 = .ok (.baload, 1) := by decide +kernel
theorem d_M_few_19 : decode c_M_few 19 = .ok (.ifCond .eq 7, 3) := by decide +kernel
theorem d_M_few_22 : decode c_M_few 22 = .ok (.iconst 1, 1) := by decide +kernel
theorem d_M_few_23 : decode c_M_few 23 = .ok (.goto 4, 3) := by decide +kernel
theorem d_M_few_26 : decode c_M_few 26 = .ok (.iconst 0, 1) := by decide +kernel
theorem d_M_few_27 : decode c_M_few 27 = .ok (.iadd, 1) := by decide +kernel
theorem d_M_few_28 : decode c_M_few 28 = .ok (.istore_n 1, 1) := by decide +kernel
theorem d_M_few_29 : decode c_M_few 29 = .ok (.iinc 2 1, 3) := by decide +kernel
theorem d_M_few_32 : decode c_M_few 32 = .ok (.goto (-28), 3) := by decide +kernel
theorem d_M_few_35 : decode c_M_few 35 = .ok (.aload_n 0, 1) := by decide +kernel
theorem d_M_few_36 : decode c_M_few 36 = .ok (.iload_n 1, 1) := by decide +kernel
theorem d_M_few_37 : decode c_M_few 37 = .ok (.invokevirtual 104, 3) := by decide +kernel
theorem d_M_few_40 : decode c_M_few 40 = .ok (.ifCond .ne 7, 3) := by decide +kernel
theorem d_M_few_43 : decode c_M_few 43 = .ok (.iconst 1, 1) := by decide +kernel
theorem d_M_few_44 : decode c_M_few 44 = .ok (.goto 4, 3) := by decide +kernel
theorem d_M_few_47 : decode c_M_few 47 = .ok (.iconst 0, 1) := by decide +kernel
theorem d_M_few_48 : decode c_M_few 48 = .ok (.ireturn, 1) := by decide +kernel
theorem d_M_quorum_0 : decode c_M_quorum 0 = .ok (.iconst 2, 1) := by decide +kernel
theorem d_M_quorum_1 : decode c_M_quorum 1 = .ok (.iload_n 1, 1) := by decide +kernel
theorem d_M_quorum_2 : decode c_M_quorum 2 = .ok (.imul, 1) := by decide +kernel
theorem d_M_quorum_3 : decode c_M_quorum 3 = .ok (.aload_n 0, 1) := by decide +kernel
theorem d_M_quorum_4 : decode c_M_quorum 4 = .ok (.getfield 29, 3) := by decide +kernel
theorem d_M_quorum_7 : decode c_M_quorum 7 = .ok (.if_icmp .le 7, 3) := by decide +kernel
theorem d_M_quorum_10 : decode c_M_quorum 10 = .ok (.iconst 1, 1) := by decide +kernel
theorem d_M_quorum_11 : decode c_M_quorum 11 = .ok (.goto 4, 3) := by decide +kernel
theorem d_M_quorum_14 : decode c_M_quorum 14 = .ok (.iconst 0, 1) := by decide +kernel
theorem d_M_quorum_15 : decode c_M_quorum 15 = .ok (.ireturn, 1) := by decide +kernel
theorem d_M_rowsOf_0 : decode c_M_rowsOf 0 = .ok (.aload_n 0, 1) := by decide +kernel
theorem d_M_rowsOf_1 : decode c_M_rowsOf 1 = .ok (.iload_n 1, 1) := by decide +kernel
theorem d_M_rowsOf_2 : decode c_M_rowsOf 2 = .ok (.bipush 15, 2) := by decide +kernel
theorem d_M_rowsOf_4 : decode c_M_rowsOf 4 = .ok (.iload_n 2, 1) := by decide +kernel
theorem d_M_rowsOf_5 : decode c_M_rowsOf 5 = .ok (.imul, 1) := by decide +kernel
theorem d_M_rowsOf_6 : decode c_M_rowsOf 6 = .ok (.iconst 2, 1) := by decide +kernel
theorem d_M_rowsOf_7 : decode c_M_rowsOf 7 = .ok (.iadd, 1) := by decide +kernel
theorem d_M_rowsOf_8 : decode c_M_rowsOf 8 = .ok (.invokevirtual 49, 3) := by decide +kernel
theorem d_M_rowsOf_11 : decode c_M_rowsOf 11 = .ok (.ireturn, 1) := by decide +kernel
theorem d_M_get_0 : decode c_M_get 0 = .ok (.aload_n 0, 1) := by decide +kernel
theorem d_M_get_1 : decode c_M_get 1 = .ok (.getfield 17, 3) := by decide +kernel
theorem d_M_get_4 : decode c_M_get 4 = .ok (.bipush 64, 2) := by decide +kernel
theorem d_M_get_6 : decode c_M_get 6 = .ok (.iload_n 1, 1) := by decide +kernel
theorem d_M_get_7 : decode c_M_get 7 = .ok (.imul, 1) := by decide +kernel
theorem d_M_get_8 : decode c_M_get 8 = .ok (.iload_n 2, 1) := by decide +kernel
theorem d_M_get_9 : decode c_M_get 9 = .ok (.iadd, 1) := by decide +kernel
theorem d_M_get_10 : decode c_M_get 10 = .ok (.iaload, 1) := by decide +kernel
theorem d_M_get_11 : decode c_M_get 11 = .ok (.ireturn, 1) := by decide +kernel
theorem d_M_copyMap_0 : decode c_M_copyMap 0 = .ok (.iconst 0, 1) := by decide +kernel
theorem d_M_copyMap_1 : decode c_M_copyMap 1 = .ok (.istore_n 3, 1) := by decide +kernel
theorem d_M_copyMap_2 : decode c_M_copyMap 2 = .ok (.iload_n 3, 1) := by decide +kernel
theorem d_M_copyMap_3 : decode c_M_copyMap 3 = .ok (.bipush 64, 2) := by decide +kernel
theorem d_M_copyMap_5 : decode c_M_copyMap 5 = .ok (.if_icmp .ge 31, 3) := by decide +kernel
theorem d_M_copyMap_8 : decode c_M_copyMap 8 = .ok (.aload_n 0, 1) := by decide +kernel
theorem d_M_copyMap_9 : decode c_M_copyMap 9 = .ok (.getfield 17, 3) := by decide +kernel
theorem d_M_copyMap_12 : decode c_M_copyMap 12 = .ok (.bipush 64, 2) := by decide +kernel
theorem d_M_copyMap_14 : decode c_M_copyMap 14 = .ok (.iload_n 2, 1) := by decide +kernel
theorem d_M_copyMap_15 : decode c_M_copyMap 15 = .ok (.imul, 1) := by decide +kernel
theorem d_M_copyMap_16 : decode c_M_copyMap 16 = .ok (.iload_n 3, 1) := by decide +kernel
theorem d_M_copyMap_17 : decode c_M_copyMap 17 = .ok (.iadd, 1) := by decide +kernel
theorem d_M_copyMap_18 : decode c_M_copyMap 18 = .ok (.aload_n 0, 1) := by decide +kernel
theorem d_M_copyMap_19 : decode c_M_copyMap 19 = .ok (.getfield 17, 3) := by decide +kernel
theorem d_M_copyMap_22 : decode c_M_copyMap 22 = .ok (.bipush 64, 2) := by decide +kernel
theorem d_M_copyMap_24 : decode c_M_copyMap 24 = .ok (.iload_n 1, 1) := by decide +kernel
theorem d_M_copyMap_25 : decode c_M_copyMap 25 = .ok (.imul, 1) := by decide +kernel
theorem d_M_copyMap_26 : decode c_M_copyMap 26 = .ok (.iload_n 3, 1) := by decide +kernel
theorem d_M_copyMap_27 : decode c_M_copyMap 27 = .ok (.iadd, 1) := by decide +kernel
theorem d_M_copyMap_28 : decode c_M_copyMap 28 = .ok (.iaload, 1) := by decide +kernel
theorem d_M_copyMap_29 : decode c_M_copyMap 29 = .ok (.iastore, 1) := by decide +kernel
theorem d_M_copyMap_30 : decode c_M_copyMap 30 = .ok (.iinc 3 1, 3) := by decide +kernel
theorem d_M_copyMap_33 : decode c_M_copyMap 33 = .ok (.goto (-31), 3) := by decide +kernel
theorem d_M_copyMap_36 : decode c_M_copyMap 36 = .ok (.return_, 1) := by decide +kernel
theorem d_M_set_0 : decode c_M_set 0 = .ok (.aload_n 0, 1) := by decide +kernel
theorem d_M_set_1 : decode c_M_set 1 = .ok (.getfield 17, 3) := by decide +kernel
theorem d_M_set_4 : decode c_M_set 4 = .ok (.bipush 64, 2) := by decide +kernel
theorem d_M_set_6 : decode c_M_set 6 = .ok (.iload_n 1, 1) := by decide +kernel
theorem d_M_set_7 : decode c_M_set 7 = .ok (.imul, 1) := by decide +kernel
theorem d_M_set_8 : decode c_M_set 8 = .ok (.iload_n 2, 1) := by decide +kernel
theorem d_M_set_9 : decode c_M_set 9 = .ok (.iadd, 1) := by decide +kernel
theorem d_M_set_10 : decode c_M_set 10 = .ok (.iload_n 3, 1) := by decide +kernel
theorem d_M_set_11 : decode c_M_set 11 = .ok (.iastore, 1) := by decide +kernel
theorem d_M_set_12 : decode c_M_set 12 = .ok (.return_, 1) := by decide +kernel
theorem d_M_addRow_0 : decode c_M_addRow 0 = .ok (.aload_n 0, 1) := by decide +kernel
theorem d_M_addRow_1 : decode c_M_addRow 1 = .ok (.bipush 16, 2) := by decide +kernel
theorem d_M_addRow_3 : decode c_M_addRow 3 = .ok (.iload_n 1, 1) := by decide +kernel
theorem d_M_addRow_4 : decode c_M_addRow 4 = .ok (.invokevirtual 56, 3) := by decide +kernel
theorem d_M_addRow_7 : decode c_M_addRow 7 = .ok (.istore_n 2, 1) := by decide +kernel
theorem d_M_addRow_8 : decode c_M_addRow 8 = .ok (.iconst 0, 1) := by decide +kernel
theorem d_M_addRow_9 : decode c_M_addRow 9 = .ok (.istore_n 3, 1) := by decide +kernel
theorem d_M_addRow_10 : decode c_M_addRow 10 = .ok (.iconst 0, 1) := by decide +kernel
theorem d_M_addRow_11 : decode c_M_addRow 11 = .ok (.istore 4, 2) := by decide +kernel
theorem d_M_addRow_13 : decode c_M_addRow 13 = .ok (.iconst 0, 1) := by decide +kernel
theorem d_M_addRow_14 : decode c_M_addRow 14 = .ok (.istore 5, 2) := by decide +kernel
theorem d_M_addRow_16 : decode c_M_addRow 16 = .ok (.iload 5, 2) := by decide +kernel
theorem d_M_addRow_18 : decode c_M_addRow 18 = .ok (.aload_n 0, 1) := by decide +kernel
theorem d_M_addRow_19 : decode c_M_addRow 19 = .ok (.getfield 29, 3) := by decide +kernel
theorem d_M_addRow_22 : decode c_M_addRow 22 = .ok (.if_icmp .ge 78, 3) := by decide +kernel
theorem d_M_addRow_25 : decode c_M_addRow 25 = .ok (.aload_n 0, 1) := by decide +kernel
theorem d_M_addRow_26 : decode c_M_addRow 26 = .ok (.getfield 7, 3) := by decide +kernel
theorem d_M_addRow_29 : decode c_M_addRow 29 = .ok (.iload 5, 2) := by decide +kernel
theorem d_M_addRow_31 : decode c_M_addRow 31 = .ok (.baload, 1) := by decide +kernel
theorem d_M_addRow_32 : decode c_M_addRow 32 = .ok (.ifCond .eq 18, 3) := by decide +kernel
theorem d_M_addRow_35 : decode c_M_addRow 35 = .ok (.aload_n 0, 1) := by decide +kernel
theorem d_M_addRow_36 : decode c_M_addRow 36 = .ok (.bipush 16, 2) := by decide +kernel
theorem d_M_addRow_38 : decode c_M_addRow 38 = .ok (.iload 5, 2) := by decide +kernel
theorem d_M_addRow_40 : decode c_M_addRow 40 = .ok (.invokevirtual 66, 3) := by decide +kernel
theorem d_M_addRow_43 : decode c_M_addRow 43 = .ok (.ifCond .le 7, 3) := by decide +kernel
theorem d_M_addRow_46 : decode c_M_addRow 46 = .ok (.iconst 1, 1) := by decide +kernel
theorem d_M_addRow_47 : decode c_M_addRow 47 = .ok (.goto 4, 3) := by decide +kernel
theorem d_M_addRow_50 : decode c_M_addRow 50 = .ok (.iconst 0, 1) := by decide +kernel
theorem d_M_addRow_51 : decode c_M_addRow 51 = .ok (.istore 6, 2) := by decide +kernel
theorem d_M_addRow_53 : decode c_M_addRow 53 = .ok (.iload_n 3, 1) := by decide +kernel
theorem d_M_addRow_54 : decode c_M_addRow 54 = .ok (.iload 6, 2) := by decide +kernel
theorem d_M_addRow_56 : decode c_M_addRow 56 = .ok (.ifCond .eq 7, 3) := by decide +kernel
theorem d_M_addRow_59 : decode c_M_addRow 59 = .ok (.iconst 1, 1) := by decide +kernel
theorem d_M_addRow_60 : decode c_M_addRow 60 = .ok (.goto 4, 3) := by decide +kernel
theorem d_M_addRow_63 : decode c_M_addRow 63 = .ok (.iconst 0, 1) := by decide +kernel
theorem d_M_addRow_64 : decode c_M_addRow 64 = .ok (.iadd, 1) := by decide +kernel
theorem d_M_addRow_65 : decode c_M_addRow 65 = .ok (.istore_n 3, 1) := by decide +kernel
theorem d_M_addRow_66 : decode c_M_addRow 66 = .ok (.iload 4, 2) := by decide +kernel
theorem d_M_addRow_68 : decode c_M_addRow 68 = .ok (.iload 6, 2) := by decide +kernel
theorem d_M_addRow_70 : decode c_M_addRow 70 = .ok (.ifCond .eq 20, 3) := by decide +kernel
theorem d_M_addRow_73 : decode c_M_addRow 73 = .ok (.aload_n 0, 1) := by decide +kernel
theorem d_M_addRow_74 : decode c_M_addRow 74 = .ok (.iload 5, 2) := by decide +kernel
theorem d_M_addRow_76 : decode c_M_addRow 76 = .ok (.invokevirtual 69, 3) := by decide +kernel
theorem d_M_addRow_79 : decode c_M_addRow 79 = .ok (.iload_n 2, 1) := by decide +kernel
theorem d_M_addRow_80 : decode c_M_addRow 80 = .ok (.if_icmp .ge 10, 3) := by decide +kernel
theorem d_M_addRow_83 : decode c_M_addRow 83 = .ok (.iconst 1, 1) := by decide +kernel
theorem d_M_addRow_84 : decode c_M_addRow 84 = .ok (.iload 5, 2) := by decide +kernel
theorem d_M_addRow_86 : decode c_M_addRow 86 = .ok (.ishl, 1) := by decide +kernel
theorem d_M_addRow_87 : decode c_M_addRow 87 = .ok (.goto 4, 3) := by decide +kernel
theorem d_M_addRow_90 : decode c_M_addRow 90 = .ok (.iconst 0, 1) := by decide +kernel
theorem d_M_addRow_91 : decode c_M_addRow 91 = .ok (.ior, 1) := by decide +kernel
theorem d_M_addRow_92 : decode c_M_addRow 92 = .ok (.istore 4, 2) := by decide +kernel
theorem d_M_addRow_94 : decode c_M_addRow 94 = .ok (.iinc 5 1, 3) := by decide +kernel
theorem d_M_addRow_97 : decode c_M_addRow 97 = .ok (.goto (-81), 3) := by decide +kernel
theorem d_M_addRow_100 : decode c_M_addRow 100 = .ok (.iload_n 3, 1) := by decide +kernel
theorem d_M_addRow_101 : decode c_M_addRow 101 = .ok (.iload_n 2, 1) := by decide +kernel
theorem d_M_addRow_102 : decode c_M_addRow 102 = .ok (.if_icmp .ge 5, 3) := by decide +kernel
theorem d_M_addRow_105 : decode c_M_addRow 105 = .ok (.iconst 0, 1) := by decide +kernel
theorem d_M_addRow_106 : decode c_M_addRow 106 = .ok (.ireturn, 1) := by decide +kernel
theorem d_M_addRow_107 : decode c_M_addRow 107 = .ok (.bipush 15, 2) := by decide +kernel
theorem d_M_addRow_109 : decode c_M_addRow 109 = .ok (.iload_n 1, 1) := by decide +kernel
theorem d_M_addRow_110 : decode c_M_addRow 110 = .ok (.imul, 1) := by decide +kernel
theorem d_M_addRow_111 : decode c_M_addRow 111 = .ok (.iconst 3, 1) := by decide +kernel
theorem d_M_addRow_112 : decode c_M_addRow 112 = .ok (.iadd, 1) := by decide +kernel
theorem d_M_addRow_113 : decode c_M_addRow 113 = .ok (.aload_n 0, 1) := by decide +kernel
theorem d_M_addRow_114 : decode c_M_addRow 114 = .ok (.bipush 16, 2) := by decide +kernel
theorem d_M_addRow_116 : decode c_M_addRow 116 = .ok (.iload_n 1, 1) := by decide +kernel
theorem d_M_addRow_117 : decode c_M_addRow 117 = .ok (.invokevirtual 59, 3) := by decide +kernel
theorem d_M_addRow_120 : decode c_M_addRow 120 = .ok (.iadd, 1) := by decide +kernel
theorem d_M_addRow_121 : decode c_M_addRow 121 = .ok (.istore 5, 2) := by decide +kernel
theorem d_M_addRow_123 : decode c_M_addRow 123 = .ok (.iconst 0, 1) := by decide +kernel
theorem d_M_addRow_124 : decode c_M_addRow 124 = .ok (.istore 6, 2) := by decide +kernel
theorem d_M_addRow_126 : decode c_M_addRow 126 = .ok (.iload 6, 2) := by decide +kernel
theorem d_M_addRow_128 : decode c_M_addRow 128 = .ok (.aload_n 0, 1) := by decide +kernel
theorem d_M_addRow_129 : decode c_M_addRow 129 = .ok (.getfield 29, 3) := by decide +kernel
theorem d_M_addRow_132 : decode c_M_addRow 132 = .ok (.if_icmp .ge 39, 3) := by decide +kernel
theorem d_M_addRow_135 : decode c_M_addRow 135 = .ok (.iload 4, 2) := by decide +kernel
theorem d_M_addRow_137 : decode c_M_addRow 137 = .ok (.iload 6, 2) := by decide +kernel
theorem d_M_addRow_139 : decode c_M_addRow 139 = .ok (.ishr, 1) := by decide +kernel
theorem d_M_addRow_140 : decode c_M_addRow 140 = .ok (.iconst 1, 1) := by decide +kernel
theorem d_M_addRow_141 : decode c_M_addRow 141 = .ok (.iand, 1) := by decide +kernel
theorem d_M_addRow_142 : decode c_M_addRow 142 = .ok (.iconst 1, 1) := by decide +kernel
theorem d_M_addRow_143 : decode c_M_addRow 143 = .ok (.if_icmp .ne 22, 3) := by decide +kernel
theorem d_M_addRow_146 : decode c_M_addRow 146 = .ok (.aload_n 0, 1) := by decide +kernel
theorem d_M_addRow_147 : decode c_M_addRow 147 = .ok (.bipush 16, 2) := by decide +kernel
theorem d_M_addRow_149 : decode c_M_addRow 149 = .ok (.iload 5, 2) := by decide +kernel
theorem d_M_addRow_151 : decode c_M_addRow 151 = .ok (.aload_n 0, 1) := by decide +kernel
theorem d_M_addRow_152 : decode c_M_addRow 152 = .ok (.bipush 16, 2) := by decide +kernel
theorem d_M_addRow_154 : decode c_M_addRow 154 = .ok (.iload 6, 2) := by decide +kernel
theorem d_M_addRow_156 : decode c_M_addRow 156 = .ok (.invokevirtual 73, 3) := by decide +kernel
theorem d_M_addRow_159 : decode c_M_addRow 159 = .ok (.invokevirtual 76, 3) := by decide +kernel
theorem d_M_addRow_162 : decode c_M_addRow 162 = .ok (.iinc 5 1, 3) := by decide +kernel
theorem d_M_addRow_165 : decode c_M_addRow 165 = .ok (.iinc 6 1, 3) := by decide +kernel
theorem d_M_addRow_168 : decode c_M_addRow 168 = .ok (.goto (-42), 3) := by decide +kernel
theorem d_M_addRow_171 : decode c_M_addRow 171 = .ok (.aload_n 0, 1) := by decide +kernel
theorem d_M_addRow_172 : decode c_M_addRow 172 = .ok (.bipush 16, 2) := by decide +kernel
theorem d_M_addRow_174 : decode c_M_addRow 174 = .ok (.bipush 15, 2) := by decide +kernel
theorem d_M_addRow_176 : decode c_M_addRow 176 = .ok (.iload_n 1, 1) := by decide +kernel
theorem d_M_addRow_177 : decode c_M_addRow 177 = .ok (.imul, 1) := by decide +kernel
theorem d_M_addRow_178 : decode c_M_addRow 178 = .ok (.iconst 2, 1) := by decide +kernel
theorem d_M_addRow_179 : decode c_M_addRow 179 = .ok (.iadd, 1) := by decide +kernel
theorem d_M_addRow_180 : decode c_M_addRow 180 = .ok (.aload_n 0, 1) := by decide +kernel
theorem d_M_addRow_181 : decode c_M_addRow 181 = .ok (.bipush 16, 2) := by decide +kernel
theorem d_M_addRow_183 : decode c_M_addRow 183 = .ok (.iload_n 1, 1) := by decide +kernel
theorem d_M_addRow_184 : decode c_M_addRow 184 = .ok (.invokevirtual 53, 3) := by decide +kernel
theorem d_M_addRow_187 : decode c_M_addRow 187 = .ok (.iconst 1, 1) := by decide +kernel
theorem d_M_addRow_188 : decode c_M_addRow 188 = .ok (.iadd, 1) := by decide +kernel
theorem d_M_addRow_189 : decode c_M_addRow 189 = .ok (.invokevirtual 76, 3) := by decide +kernel
theorem d_M_addRow_192 : decode c_M_addRow 192 = .ok (.iconst 1, 1) := by decide +kernel
theorem d_M_addRow_193 : decode c_M_addRow 193 = .ok (.ireturn, 1) := by decide +kernel
theorem d_M_width_0 : decode c_M_width 0 = .ok (.aload_n 0, 1) := by decide +kernel
theorem d_M_width_1 : decode c_M_width 1 = .ok (.iload_n 1, 1) := by decide +kernel
theorem d_M_width_2 : decode c_M_width 2 = .ok (.bipush 15, 2) := by decide +kernel
theorem d_M_width_4 : decode c_M_width 4 = .ok (.iload_n 2, 1) := by decide +kernel
theorem d_M_width_5 : decode c_M_width 5 = .ok (.imul, 1) := by decide +kernel
theorem d_M_width_6 : decode c_M_width 6 = .ok (.invokevirtual 49, 3) := by decide +kernel
theorem d_M_width_9 : decode c_M_width 9 = .ok (.ireturn, 1) := by decide +kernel
theorem d_M_freeOf_0 : decode c_M_freeOf 0 = .ok (.iconst 0, 1) := by decide +kernel
theorem d_M_freeOf_1 : decode c_M_freeOf 1 = .ok (.istore_n 3, 1) := by decide +kernel
theorem d_M_freeOf_2 : decode c_M_freeOf 2 = .ok (.iconst 0, 1) := by decide +kernel
theorem d_M_freeOf_3 : decode c_M_freeOf 3 = .ok (.istore 4, 2) := by decide +kernel
theorem d_M_freeOf_5 : decode c_M_freeOf 5 = .ok (.iload 4, 2) := by decide +kernel
theorem d_M_freeOf_7 : decode c_M_freeOf 7 = .ok (.aload_n 0, 1) := by decide +kernel
theorem d_M_freeOf_8 : decode c_M_freeOf 8 = .ok (.getfield 33, 3) := by decide +kernel
theorem d_M_freeOf_11 : decode c_M_freeOf 11 = .ok (.if_icmp .ge 32, 3) := by decide +kernel
theorem d_M_freeOf_14 : decode c_M_freeOf 14 = .ok (.iload_n 3, 1) := by decide +kernel
theorem d_M_freeOf_15 : decode c_M_freeOf 15 = .ok (.aload_n 0, 1) := by decide +kernel
theorem d_M_freeOf_16 : decode c_M_freeOf 16 = .ok (.iload_n 1, 1) := by decide +kernel
theorem d_M_freeOf_17 : decode c_M_freeOf 17 = .ok (.bipush 16, 2) := by decide +kernel
theorem d_M_freeOf_19 : decode c_M_freeOf 19 = .ok (.iload_n 2, 1) := by decide +kernel
theorem d_M_freeOf_20 : decode c_M_freeOf 20 = .ok (.imul, 1) := by decide +kernel
theorem d_M_freeOf_21 : decode c_M_freeOf 21 = .ok (.iload 4, 2) := by decide +kernel
theorem d_M_freeOf_23 : decode c_M_freeOf 23 = .ok (.iadd, 1) := by decide +kernel
theorem d_M_freeOf_24 : decode c_M_freeOf 24 = .ok (.invokevirtual 62, 3) := by decide +kernel
theorem d_M_freeOf_27 : decode c_M_freeOf 27 = .ok (.ifCond .eq 7, 3) := by decide +kernel
theorem d_M_freeOf_30 : decode c_M_freeOf 30 = .ok (.iconst 0, 1) := by decide +kernel
theorem d_M_freeOf_31 : decode c_M_freeOf 31 = .ok (.goto 4, 3) := by decide +kernel
theorem d_M_freeOf_34 : decode c_M_freeOf 34 = .ok (.iconst 1, 1) := by decide +kernel
theorem d_M_freeOf_35 : decode c_M_freeOf 35 = .ok (.iadd, 1) := by decide +kernel
theorem d_M_freeOf_36 : decode c_M_freeOf 36 = .ok (.istore_n 3, 1) := by decide +kernel
theorem d_M_freeOf_37 : decode c_M_freeOf 37 = .ok (.iinc 4 1, 3) := by decide +kernel
theorem d_M_freeOf_40 : decode c_M_freeOf 40 = .ok (.goto (-35), 3) := by decide +kernel
theorem d_M_freeOf_43 : decode c_M_freeOf 43 = .ok (.iload_n 3, 1) := by decide +kernel
theorem d_M_freeOf_44 : decode c_M_freeOf 44 = .ok (.ireturn, 1) := by decide +kernel
theorem d_M_used_0 : decode c_M_used 0 = .ok (.aload_n 0, 1) := by decide +kernel
theorem d_M_used_1 : decode c_M_used 1 = .ok (.iload_n 1, 1) := by decide +kernel
theorem d_M_used_2 : decode c_M_used 2 = .ok (.bipush 60, 2) := by decide +kernel
theorem d_M_used_4 : decode c_M_used 4 = .ok (.invokevirtual 49, 3) := by decide +kernel
theorem d_M_used_7 : decode c_M_used 7 = .ok (.ifCond .lt 18, 3) := by decide +kernel
theorem d_M_used_10 : decode c_M_used 10 = .ok (.aload_n 0, 1) := by decide +kernel
theorem d_M_used_11 : decode c_M_used 11 = .ok (.iload_n 1, 1) := by decide +kernel
theorem d_M_used_12 : decode c_M_used 12 = .ok (.bipush 62, 2) := by decide +kernel
theorem d_M_used_14 : decode c_M_used 14 = .ok (.invokevirtual 49, 3) := by decide +kernel
theorem d_M_used_17 : decode c_M_used 17 = .ok (.iload_n 2, 1) := by decide +kernel
theorem d_M_used_18 : decode c_M_used 18 = .ok (.if_icmp .ne 7, 3) := by decide +kernel
theorem d_M_used_21 : decode c_M_used 21 = .ok (.iconst 1, 1) := by decide +kernel
theorem d_M_used_22 : decode c_M_used 22 = .ok (.goto 4, 3) := by decide +kernel
theorem d_M_used_25 : decode c_M_used 25 = .ok (.iconst 0, 1) := by decide +kernel
theorem d_M_used_26 : decode c_M_used 26 = .ok (.istore_n 3, 1) := by decide +kernel
theorem d_M_used_27 : decode c_M_used 27 = .ok (.iconst 0, 1) := by decide +kernel
theorem d_M_used_28 : decode c_M_used 28 = .ok (.istore 4, 2) := by decide +kernel
theorem d_M_used_30 : decode c_M_used 30 = .ok (.iload 4, 2) := by decide +kernel
theorem d_M_used_32 : decode c_M_used 32 = .ok (.iconst 4, 1) := by decide +kernel
theorem d_M_used_33 : decode c_M_used 33 = .ok (.if_icmp .ge 63, 3) := by decide +kernel
theorem d_M_used_36 : decode c_M_used 36 = .ok (.aload_n 0, 1) := by decide +kernel
theorem d_M_used_37 : decode c_M_used 37 = .ok (.iload_n 1, 1) := by decide +kernel
theorem d_M_used_38 : decode c_M_used 38 = .ok (.iload 4, 2) := by decide +kernel
theorem d_M_used_40 : decode c_M_used 40 = .ok (.invokevirtual 59, 3) := by decide +kernel
theorem d_M_used_43 : decode c_M_used 43 = .ok (.istore 5, 2) := by decide +kernel
theorem d_M_used_45 : decode c_M_used 45 = .ok (.iconst 0, 1) := by decide +kernel
theorem d_M_used_46 : decode c_M_used 46 = .ok (.istore 6, 2) := by decide +kernel
theorem d_M_used_48 : decode c_M_used 48 = .ok (.iload 6, 2) := by decide +kernel
theorem d_M_used_50 : decode c_M_used 50 = .ok (.iload 5, 2) := by decide +kernel
theorem d_M_used_52 : decode c_M_used 52 = .ok (.if_icmp .ge 38, 3) := by decide +kernel
theorem d_M_used_55 : decode c_M_used 55 = .ok (.iload_n 3, 1) := by decide +kernel
theorem d_M_used_56 : decode c_M_used 56 = .ok (.ifCond .ne 22, 3) := by decide +kernel
theorem d_M_used_59 : decode c_M_used 59 = .ok (.aload_n 0, 1) := by decide +kernel
theorem d_M_used_60 : decode c_M_used 60 = .ok (.iload_n 1, 1) := by decide +kernel
theorem d_M_used_61 : decode c_M_used 61 = .ok (.bipush 15, 2) := by decide +kernel
theorem d_M_used_63 : decode c_M_used 63 = .ok (.iload 4, 2) := by decide +kernel
theorem d_M_used_65 : decode c_M_used 65 = .ok (.imul, 1) := by decide +kernel
theorem d_M_used_66 : decode c_M_used 66 = .ok (.iconst 3, 1) := by decide +kernel
theorem d_M_used_67 : decode c_M_used 67 = .ok (.iadd, 1) := by decide +kernel
theorem d_M_used_68 : decode c_M_used 68 = .ok (.iload 6, 2) := by decide +kernel
theorem d_M_used_70 : decode c_M_used 70 = .ok (.iadd, 1) := by decide +kernel
theorem d_M_used_71 : decode c_M_used 71 = .ok (.invokevirtual 49, 3) := by decide +kernel
theorem d_M_used_74 : decode c_M_used 74 = .ok (.iload_n 2, 1) := by decide +kernel
theorem d_M_used_75 : decode c_M_used 75 = .ok (.if_icmp .ne 7, 3) := by decide +kernel
theorem d_M_used_78 : decode c_M_used 78 = .ok (.iconst 1, 1) := by decide +kernel
theorem d_M_used_79 : decode c_M_used 79 = .ok (.goto 4, 3) := by decide +kernel
theorem d_M_used_82 : decode c_M_used 82 = .ok (.iconst 0, 1) := by decide +kernel
theorem d_M_used_83 : decode c_M_used 83 = .ok (.istore_n 3, 1) := by decide +kernel
theorem d_M_used_84 : decode c_M_used 84 = .ok (.iinc 6 1, 3) := by decide +kernel
theorem d_M_used_87 : decode c_M_used 87 = .ok (.goto (-39), 3) := by decide +kernel
theorem d_M_used_90 : decode c_M_used 90 = .ok (.iinc 4 1, 3) := by decide +kernel
theorem d_M_used_93 : decode c_M_used 93 = .ok (.goto (-63), 3) := by decide +kernel
theorem d_M_used_96 : decode c_M_used 96 = .ok (.iload_n 3, 1) := by decide +kernel
theorem d_M_used_97 : decode c_M_used 97 = .ok (.ireturn, 1) := by decide +kernel
theorem d_M_extentsOf_0 : decode c_M_extentsOf 0 = .ok (.aload_n 0, 1) := by decide +kernel
theorem d_M_extentsOf_1 : decode c_M_extentsOf 1 = .ok (.iload_n 1, 1) := by decide +kernel
theorem d_M_extentsOf_2 : decode c_M_extentsOf 2 = .ok (.iload_n 2, 1) := by decide +kernel
theorem d_M_extentsOf_3 : decode c_M_extentsOf 3 = .ok (.invokevirtual 56, 3) := by decide +kernel
theorem d_M_extentsOf_6 : decode c_M_extentsOf 6 = .ok (.aload_n 0, 1) := by decide +kernel
theorem d_M_extentsOf_7 : decode c_M_extentsOf 7 = .ok (.iload_n 1, 1) := by decide +kernel
theorem d_M_extentsOf_8 : decode c_M_extentsOf 8 = .ok (.iload_n 2, 1) := by decide +kernel
theorem d_M_extentsOf_9 : decode c_M_extentsOf 9 = .ok (.invokevirtual 53, 3) := by decide +kernel
theorem d_M_extentsOf_12 : decode c_M_extentsOf 12 = .ok (.imul, 1) := by decide +kernel
theorem d_M_extentsOf_13 : decode c_M_extentsOf 13 = .ok (.ireturn, 1) := by decide +kernel
theorem d_M_before_0 : decode c_M_before 0 = .ok (.aload_n 0, 1) := by decide +kernel
theorem d_M_before_1 : decode c_M_before 1 = .ok (.bipush 16, 2) := by decide +kernel
theorem d_M_before_3 : decode c_M_before 3 = .ok (.iload_n 1, 1) := by decide +kernel
theorem d_M_before_4 : decode c_M_before 4 = .ok (.invokevirtual 66, 3) := by decide +kernel
theorem d_M_before_7 : decode c_M_before 7 = .ok (.istore_n 2, 1) := by decide +kernel
theorem d_M_before_8 : decode c_M_before 8 = .ok (.iconst 0, 1) := by decide +kernel
theorem d_M_before_9 : decode c_M_before 9 = .ok (.istore_n 3, 1) := by decide +kernel
theorem d_M_before_10 : decode c_M_before 10 = .ok (.iconst 0, 1) := by decide +kernel
theorem d_M_before_11 : decode c_M_before 11 = .ok (.istore 4, 2) := by decide +kernel
theorem d_M_before_13 : decode c_M_before 13 = .ok (.iload 4, 2) := by decide +kernel
theorem d_M_before_15 : decode c_M_before 15 = .ok (.aload_n 0, 1) := by decide +kernel
theorem d_M_before_16 : decode c_M_before 16 = .ok (.getfield 29, 3) := by decide +kernel
theorem d_M_before_19 : decode c_M_before 19 = .ok (.if_icmp .ge 65, 3) := by decide +kernel
theorem d_M_before_22 : decode c_M_before 22 = .ok (.aload_n 0, 1) := by decide +kernel
theorem d_M_before_23 : decode c_M_before 23 = .ok (.getfield 7, 3) := by decide +kernel
theorem d_M_before_26 : decode c_M_before 26 = .ok (.iload 4, 2) := by decide +kernel
theorem d_M_before_28 : decode c_M_before 28 = .ok (.baload, 1) := by decide +kernel
theorem d_M_before_29 : decode c_M_before 29 = .ok (.ifCond .eq 14, 3) := by decide +kernel
theorem d_M_before_32 : decode c_M_before 32 = .ok (.aload_n 0, 1) := by decide +kernel
theorem d_M_before_33 : decode c_M_before 33 = .ok (.bipush 16, 2) := by decide +kernel
theorem d_M_before_35 : decode c_M_before 35 = .ok (.iload 4, 2) := by decide +kernel
theorem d_M_before_37 : decode c_M_before 37 = .ok (.invokevirtual 66, 3) := by decide +kernel
theorem d_M_before_40 : decode c_M_before 40 = .ok (.goto 4, 3) := by decide +kernel
theorem d_M_before_43 : decode c_M_before 43 = .ok (.iconst 0, 1) := by decide +kernel
theorem d_M_before_44 : decode c_M_before 44 = .ok (.istore 5, 2) := by decide +kernel
theorem d_M_before_46 : decode c_M_before 46 = .ok (.iload_n 3, 1) := by decide +kernel
theorem d_M_before_47 : decode c_M_before 47 = .ok (.iload 4, 2) := by decide +kernel
theorem d_M_before_49 : decode c_M_before 49 = .ok (.iload_n 1, 1) := by decide +kernel
theorem d_M_before_50 : decode c_M_before 50 = .ok (.if_icmp .eq 25, 3) := by decide +kernel
theorem d_M_before_53 : decode c_M_before 53 = .ok (.iload 5, 2) := by decide +kernel
theorem d_M_before_55 : decode c_M_before 55 = .ok (.iload_n 2, 1) := by decide +kernel
theorem d_M_before_56 : decode c_M_before 56 = .ok (.if_icmp .gt 15, 3) := by decide +kernel
theorem d_M_before_59 : decode c_M_before 59 = .ok (.iload 5, 2) := by decide +kernel
theorem d_M_before_61 : decode c_M_before 61 = .ok (.iload_n 2, 1) := by decide +kernel
theorem d_M_before_62 : decode c_M_before 62 = .ok (.if_icmp .ne 13, 3) := by decide +kernel
theorem d_M_before_65 : decode c_M_before 65 = .ok (.iload 4, 2) := by decide +kernel
theorem d_M_before_67 : decode c_M_before 67 = .ok (.iload_n 1, 1) := by decide +kernel
theorem d_M_before_68 : decode c_M_before 68 = .ok (.if_icmp .ge 7, 3) := by decide +kernel
theorem d_M_before_71 : decode c_M_before 71 = .ok (.iconst 1, 1) := by decide +kernel
theorem d_M_before_72 : decode c_M_before 72 = .ok (.goto 4, 3) := by decide +kernel
theorem d_M_before_75 : decode c_M_before 75 = .ok (.iconst 0, 1) := by decide +kernel
theorem d_M_before_76 : decode c_M_before 76 = .ok (.iadd, 1) := by decide +kernel
theorem d_M_before_77 : decode c_M_before 77 = .ok (.istore_n 3, 1) := by decide +kernel
theorem d_M_before_78 : decode c_M_before 78 = .ok (.iinc 4 1, 3) := by decide +kernel
theorem d_M_before_81 : decode c_M_before 81 = .ok (.goto (-68), 3) := by decide +kernel
theorem d_M_before_84 : decode c_M_before 84 = .ok (.iload_n 3, 1) := by decide +kernel
theorem d_M_before_85 : decode c_M_before 85 = .ok (.ireturn, 1) := by decide +kernel
theorem d_M_leastFree_0 : decode c_M_leastFree 0 = .ok (.iconst 0, 1) := by decide +kernel
theorem d_M_leastFree_1 : decode c_M_leastFree 1 = .ok (.istore_n 3, 1) := by decide +kernel
theorem d_M_leastFree_2 : decode c_M_leastFree 2 = .ok (.iload_n 3, 1) := by decide +kernel
theorem d_M_leastFree_3 : decode c_M_leastFree 3 = .ok (.aload_n 0, 1) := by decide +kernel
theorem d_M_leastFree_4 : decode c_M_leastFree 4 = .ok (.getfield 33, 3) := by decide +kernel
theorem d_M_leastFree_7 : decode c_M_leastFree 7 = .ok (.if_icmp .ge 30, 3) := by decide +kernel
theorem d_M_leastFree_10 : decode c_M_leastFree 10 = .ok (.aload_n 0, 1) := by decide +kernel
theorem d_M_leastFree_11 : decode c_M_leastFree 11 = .ok (.iload_n 1, 1) := by decide +kernel
theorem d_M_leastFree_12 : decode c_M_leastFree 12 = .ok (.bipush 16, 2) := by decide +kernel
theorem d_M_leastFree_14 : decode c_M_leastFree 14 = .ok (.iload_n 2, 1) := by decide +kernel
theorem d_M_leastFree_15 : decode c_M_leastFree 15 = .ok (.imul, 1) := by decide +kernel
theorem d_M_leastFree_16 : decode c_M_leastFree 16 = .ok (.iload_n 3, 1) := by decide +kernel
theorem d_M_leastFree_17 : decode c_M_leastFree 17 = .ok (.iadd, 1) := by decide +kernel
theorem d_M_leastFree_18 : decode c_M_leastFree 18 = .ok (.invokevirtual 62, 3) := by decide +kernel
theorem d_M_leastFree_21 : decode c_M_leastFree 21 = .ok (.ifCond .ne 10, 3) := by decide +kernel
theorem d_M_leastFree_24 : decode c_M_leastFree 24 = .ok (.bipush 16, 2) := by decide +kernel
theorem d_M_leastFree_26 : decode c_M_leastFree 26 = .ok (.iload_n 2, 1) := by decide +kernel
theorem d_M_leastFree_27 : decode c_M_leastFree 27 = .ok (.imul, 1) := by decide +kernel
theorem d_M_leastFree_28 : decode c_M_leastFree 28 = .ok (.iload_n 3, 1) := by decide +kernel
theorem d_M_leastFree_29 : decode c_M_leastFree 29 = .ok (.iadd, 1) := by decide +kernel
theorem d_M_leastFree_30 : decode c_M_leastFree 30 = .ok (.ireturn, 1) := by decide +kernel
theorem d_M_leastFree_31 : decode c_M_leastFree 31 = .ok (.iinc 3 1, 3) := by decide +kernel
theorem d_M_leastFree_34 : decode c_M_leastFree 34 = .ok (.goto (-32), 3) := by decide +kernel
theorem d_M_leastFree_37 : decode c_M_leastFree 37 = .ok (.iconst (-1), 1) := by decide +kernel
theorem d_M_leastFree_38 : decode c_M_leastFree 38 = .ok (.ireturn, 1) := by decide +kernel
theorem d_M_commit_0 : decode c_M_commit 0 = .ok (.aload_n 0, 1) := by decide +kernel
theorem d_M_commit_1 : decode c_M_commit 1 = .ok (.dup, 1) := by decide +kernel
theorem d_M_commit_2 : decode c_M_commit 2 = .ok (.getfield 42, 3) := by decide +kernel
theorem d_M_commit_5 : decode c_M_commit 5 = .ok (.iconst 1, 1) := by decide +kernel
theorem d_M_commit_6 : decode c_M_commit 6 = .ok (.iadd, 1) := by decide +kernel
theorem d_M_commit_7 : decode c_M_commit 7 = .ok (.putfield 42, 3) := by decide +kernel
theorem d_M_commit_10 : decode c_M_commit 10 = .ok (.aload_n 0, 1) := by decide +kernel
theorem d_M_commit_11 : decode c_M_commit 11 = .ok (.getfield 42, 3) := by decide +kernel
theorem d_M_commit_14 : decode c_M_commit 14 = .ok (.istore_n 1, 1) := by decide +kernel
theorem d_M_commit_15 : decode c_M_commit 15 = .ok (.iconst 0, 1) := by decide +kernel
theorem d_M_commit_16 : decode c_M_commit 16 = .ok (.istore_n 2, 1) := by decide +kernel
theorem d_M_commit_17 : decode c_M_commit 17 = .ok (.iload_n 2, 1) := by decide +kernel
theorem d_M_commit_18 : decode c_M_commit 18 = .ok (.aload_n 0, 1) := by decide +kernel
theorem d_M_commit_19 : decode c_M_commit 19 = .ok (.getfield 29, 3) := by decide +kernel
theorem d_M_commit_22 : decode c_M_commit 22 = .ok (.if_icmp .ge 41, 3) := by decide +kernel
theorem d_M_commit_25 : decode c_M_commit 25 = .ok (.aload_n 0, 1) := by decide +kernel
theorem d_M_commit_26 : decode c_M_commit 26 = .ok (.getfield 7, 3) := by decide +kernel
theorem d_M_commit_29 : decode c_M_commit 29 = .ok (.iload_n 2, 1) := by decide +kernel
theorem d_M_commit_30 : decode c_M_commit 30 = .ok (.baload, 1) := by decide +kernel
theorem d_M_commit_31 : decode c_M_commit 31 = .ok (.ifCond .eq 26, 3) := by decide +kernel
theorem d_M_commit_34 : decode c_M_commit 34 = .ok (.aload_n 0, 1) := by decide +kernel
theorem d_M_commit_35 : decode c_M_commit 35 = .ok (.aload_n 0, 1) := by decide +kernel
theorem d_M_commit_36 : decode c_M_commit 36 = .ok (.iload_n 2, 1) := by decide +kernel
theorem d_M_commit_37 : decode c_M_commit 37 = .ok (.invokevirtual 97, 3) := by decide +kernel
theorem d_M_commit_40 : decode c_M_commit 40 = .ok (.bipush 16, 2) := by decide +kernel
theorem d_M_commit_42 : decode c_M_commit 42 = .ok (.aload_n 0, 1) := by decide +kernel
theorem d_M_commit_43 : decode c_M_commit 43 = .ok (.getfield 36, 3) := by decide +kernel
theorem d_M_commit_46 : decode c_M_commit 46 = .ok (.iconst 1, 1) := by decide +kernel
theorem d_M_commit_47 : decode c_M_commit 47 = .ok (.iadd, 1) := by decide +kernel
theorem d_M_commit_48 : decode c_M_commit 48 = .ok (.iload_n 1, 1) := by decide +kernel
theorem d_M_commit_49 : decode c_M_commit 49 = .ok (.invokevirtual 100, 3) := by decide +kernel
theorem d_M_commit_52 : decode c_M_commit 52 = .ok (.ifCond .ne 5, 3) := by decide +kernel
theorem d_M_commit_55 : decode c_M_commit 55 = .ok (.iconst 0, 1) := by decide +kernel
theorem d_M_commit_56 : decode c_M_commit 56 = .ok (.ireturn, 1) := by decide +kernel
theorem d_M_commit_57 : decode c_M_commit 57 = .ok (.iinc 2 1, 3) := by decide +kernel
theorem d_M_commit_60 : decode c_M_commit 60 = .ok (.goto (-43), 3) := by decide +kernel
theorem d_M_commit_63 : decode c_M_commit 63 = .ok (.aload_n 0, 1) := by decide +kernel
theorem d_M_commit_64 : decode c_M_commit 64 = .ok (.dup, 1) := by decide +kernel
theorem d_M_commit_65 : decode c_M_commit 65 = .ok (.getfield 36, 3) := by decide +kernel
theorem d_M_commit_68 : decode c_M_commit 68 = .ok (.iconst 1, 1) := by decide +kernel
theorem d_M_commit_69 : decode c_M_commit 69 = .ok (.iadd, 1) := by decide +kernel
theorem d_M_commit_70 : decode c_M_commit 70 = .ok (.putfield 36, 3) := by decide +kernel
theorem d_M_commit_73 : decode c_M_commit 73 = .ok (.aload_n 0, 1) := by decide +kernel
theorem d_M_commit_74 : decode c_M_commit 74 = .ok (.iload_n 1, 1) := by decide +kernel
theorem d_M_commit_75 : decode c_M_commit 75 = .ok (.putfield 39, 3) := by decide +kernel
theorem d_M_commit_78 : decode c_M_commit 78 = .ok (.aload_n 0, 1) := by decide +kernel
theorem d_M_commit_79 : decode c_M_commit 79 = .ok (.bipush 16, 2) := by decide +kernel
theorem d_M_commit_81 : decode c_M_commit 81 = .ok (.bipush 15, 2) := by decide +kernel
theorem d_M_commit_83 : decode c_M_commit 83 = .ok (.invokevirtual 90, 3) := by decide +kernel
theorem d_M_commit_86 : decode c_M_commit 86 = .ok (.iconst 1, 1) := by decide +kernel
theorem d_M_commit_87 : decode c_M_commit 87 = .ok (.ireturn, 1) := by decide +kernel
theorem d_M_slotBehind_0 : decode c_M_slotBehind 0 = .ok (.aload_n 0, 1) := by decide +kernel
theorem d_M_slotBehind_1 : decode c_M_slotBehind 1 = .ok (.iload_n 1, 1) := by decide +kernel
theorem d_M_slotBehind_2 : decode c_M_slotBehind 2 = .ok (.invokevirtual 94, 3) := by decide +kernel
theorem d_M_slotBehind_5 : decode c_M_slotBehind 5 = .ok (.istore_n 2, 1) := by decide +kernel
theorem d_M_slotBehind_6 : decode c_M_slotBehind 6 = .ok (.iconst 0, 1) := by decide +kernel
theorem d_M_slotBehind_7 : decode c_M_slotBehind 7 = .ok (.istore_n 3, 1) := by decide +kernel
theorem d_M_slotBehind_8 : decode c_M_slotBehind 8 = .ok (.iload_n 3, 1) := by decide +kernel
theorem d_M_slotBehind_9 : decode c_M_slotBehind 9 = .ok (.iconst 3, 1) := by decide +kernel
theorem d_M_slotBehind_10 : decode c_M_slotBehind 10 = .ok (.if_icmp .ge 57, 3) := by decide +kernel
theorem d_M_slotBehind_13 : decode c_M_slotBehind 13 = .ok (.aload_n 0, 1) := by decide +kernel
theorem d_M_slotBehind_14 : decode c_M_slotBehind 14 = .ok (.getfield 20, 3) := by decide +kernel
theorem d_M_slotBehind_17 : decode c_M_slotBehind 17 = .ok (.iconst 3, 1) := by decide +kernel
theorem d_M_slotBehind_18 : decode c_M_slotBehind 18 = .ok (.iload_n 1, 1) := by decide +kernel
theorem d_M_slotBehind_19 : decode c_M_slotBehind 19 = .ok (.imul, 1) := by decide +kernel
theorem d_M_slotBehind_20 : decode c_M_slotBehind 20 = .ok (.iload_n 3, 1) := by decide +kernel
theorem d_M_slotBehind_21 : decode c_M_slotBehind 21 = .ok (.iadd, 1) := by decide +kernel
theorem d_M_slotBehind_22 : decode c_M_slotBehind 22 = .ok (.iaload, 1) := by decide +kernel
theorem d_M_slotBehind_23 : decode c_M_slotBehind 23 = .ok (.aload_n 0, 1) := by decide +kernel
theorem d_M_slotBehind_24 : decode c_M_slotBehind 24 = .ok (.getfield 36, 3) := by decide +kernel
theorem d_M_slotBehind_27 : decode c_M_slotBehind 27 = .ok (.if_icmp .ne 32, 3) := by decide +kernel
theorem d_M_slotBehind_30 : decode c_M_slotBehind 30 = .ok (.aload_n 0, 1) := by decide +kernel
theorem d_M_slotBehind_31 : decode c_M_slotBehind 31 = .ok (.getfield 23, 3) := by decide +kernel
theorem d_M_slotBehind_34 : decode c_M_slotBehind 34 = .ok (.iconst 3, 1) := by decide +kernel
theorem d_M_slotBehind_35 : decode c_M_slotBehind 35 = .ok (.iload_n 1, 1) := by decide +kernel
theorem d_M_slotBehind_36 : decode c_M_slotBehind 36 = .ok (.imul, 1) := by decide +kernel
theorem d_M_slotBehind_37 : decode c_M_slotBehind 37 = .ok (.iload_n 3, 1) := by decide +kernel
theorem d_M_slotBehind_38 : decode c_M_slotBehind 38 = .ok (.iadd, 1) := by decide +kernel
theorem d_M_slotBehind_39 : decode c_M_slotBehind 39 = .ok (.iaload, 1) := by decide +kernel
theorem d_M_slotBehind_40 : decode c_M_slotBehind 40 = .ok (.aload_n 0, 1) := by decide +kernel
theorem d_M_slotBehind_41 : decode c_M_slotBehind 41 = .ok (.getfield 39, 3) := by decide +kernel
theorem d_M_slotBehind_44 : decode c_M_slotBehind 44 = .ok (.if_icmp .ne 15, 3) := by decide +kernel
theorem d_M_slotBehind_47 : decode c_M_slotBehind 47 = .ok (.iconst 3, 1) := by decide +kernel
theorem d_M_slotBehind_48 : decode c_M_slotBehind 48 = .ok (.iload_n 1, 1) := by decide +kernel
theorem d_M_slotBehind_49 : decode c_M_slotBehind 49 = .ok (.imul, 1) := by decide +kernel
theorem d_M_slotBehind_50 : decode c_M_slotBehind 50 = .ok (.iload_n 3, 1) := by decide +kernel
theorem d_M_slotBehind_51 : decode c_M_slotBehind 51 = .ok (.iconst 1, 1) := by decide +kernel
theorem d_M_slotBehind_52 : decode c_M_slotBehind 52 = .ok (.iadd, 1) := by decide +kernel
theorem d_M_slotBehind_53 : decode c_M_slotBehind 53 = .ok (.iconst 3, 1) := by decide +kernel
theorem d_M_slotBehind_54 : decode c_M_slotBehind 54 = .ok (.irem, 1) := by decide +kernel
theorem d_M_slotBehind_55 : decode c_M_slotBehind 55 = .ok (.iadd, 1) := by decide +kernel
theorem d_M_slotBehind_56 : decode c_M_slotBehind 56 = .ok (.goto 4, 3) := by decide +kernel
theorem d_M_slotBehind_59 : decode c_M_slotBehind 59 = .ok (.iload_n 2, 1) := by decide +kernel
theorem d_M_slotBehind_60 : decode c_M_slotBehind 60 = .ok (.istore_n 2, 1) := by decide +kernel
theorem d_M_slotBehind_61 : decode c_M_slotBehind 61 = .ok (.iinc 3 1, 3) := by decide +kernel
theorem d_M_slotBehind_64 : decode c_M_slotBehind 64 = .ok (.goto (-56), 3) := by decide +kernel
theorem d_M_slotBehind_67 : decode c_M_slotBehind 67 = .ok (.iload_n 2, 1) := by decide +kernel
theorem d_M_slotBehind_68 : decode c_M_slotBehind 68 = .ok (.ireturn, 1) := by decide +kernel
theorem d_M_nextSlot_0 : decode c_M_nextSlot 0 = .ok (.iconst 3, 1) := by decide +kernel
theorem d_M_nextSlot_1 : decode c_M_nextSlot 1 = .ok (.iload_n 1, 1) := by decide +kernel
theorem d_M_nextSlot_2 : decode c_M_nextSlot 2 = .ok (.imul, 1) := by decide +kernel
theorem d_M_nextSlot_3 : decode c_M_nextSlot 3 = .ok (.aload_n 0, 1) := by decide +kernel
theorem d_M_nextSlot_4 : decode c_M_nextSlot 4 = .ok (.getfield 26, 3) := by decide +kernel
theorem d_M_nextSlot_7 : decode c_M_nextSlot 7 = .ok (.iload_n 1, 1) := by decide +kernel
theorem d_M_nextSlot_8 : decode c_M_nextSlot 8 = .ok (.iaload, 1) := by decide +kernel
theorem d_M_nextSlot_9 : decode c_M_nextSlot 9 = .ok (.iconst 3, 1) := by decide +kernel
theorem d_M_nextSlot_10 : decode c_M_nextSlot 10 = .ok (.irem, 1) := by decide +kernel
theorem d_M_nextSlot_11 : decode c_M_nextSlot 11 = .ok (.iadd, 1) := by decide +kernel
theorem d_M_nextSlot_12 : decode c_M_nextSlot 12 = .ok (.ireturn, 1) := by decide +kernel
theorem d_M_writeCopy_0 : decode c_M_writeCopy 0 = .ok (.iload_n 1, 1) := by decide +kernel
theorem d_M_writeCopy_1 : decode c_M_writeCopy 1 = .ok (.iconst 3, 1) := by decide +kernel
theorem d_M_writeCopy_2 : decode c_M_writeCopy 2 = .ok (.idiv, 1) := by decide +kernel
theorem d_M_writeCopy_3 : decode c_M_writeCopy 3 = .ok (.istore 5, 2) := by decide +kernel
theorem d_M_writeCopy_5 : decode c_M_writeCopy 5 = .ok (.aload_n 0, 1) := by decide +kernel
theorem d_M_writeCopy_6 : decode c_M_writeCopy 6 = .ok (.invokevirtual 86, 3) := by decide +kernel
theorem d_M_writeCopy_9 : decode c_M_writeCopy 9 = .ok (.istore 6, 2) := by decide +kernel
theorem d_M_writeCopy_11 : decode c_M_writeCopy 11 = .ok (.aload_n 0, 1) := by decide +kernel
theorem d_M_writeCopy_12 : decode c_M_writeCopy 12 = .ok (.getfield 26, 3) := by decide +kernel
theorem d_M_writeCopy_15 : decode c_M_writeCopy 15 = .ok (.iload 5, 2) := by decide +kernel
theorem d_M_writeCopy_17 : decode c_M_writeCopy 17 = .ok (.dup2, 1) := by decide +kernel
theorem d_M_writeCopy_18 : decode c_M_writeCopy 18 = .ok (.iaload, 1) := by decide +kernel
theorem d_M_writeCopy_19 : decode c_M_writeCopy 19 = .ok (.iconst 1, 1) := by decide +kernel
theorem d_M_writeCopy_20 : decode c_M_writeCopy 20 = .ok (.iadd, 1) := by decide +kernel
theorem d_M_writeCopy_21 : decode c_M_writeCopy 21 = .ok (.iastore, 1) := by decide +kernel
theorem d_M_writeCopy_22 : decode c_M_writeCopy 22 = .ok (.aload_n 0, 1) := by decide +kernel
theorem d_M_writeCopy_23 : decode c_M_writeCopy 23 = .ok (.iload_n 2, 1) := by decide +kernel
theorem d_M_writeCopy_24 : decode c_M_writeCopy 24 = .ok (.iload_n 1, 1) := by decide +kernel
theorem d_M_writeCopy_25 : decode c_M_writeCopy 25 = .ok (.invokevirtual 90, 3) := by decide +kernel
theorem d_M_writeCopy_28 : decode c_M_writeCopy 28 = .ok (.aload_n 0, 1) := by decide +kernel
theorem d_M_writeCopy_29 : decode c_M_writeCopy 29 = .ok (.getfield 20, 3) := by decide +kernel
theorem d_M_writeCopy_32 : decode c_M_writeCopy 32 = .ok (.iload_n 1, 1) := by decide +kernel
theorem d_M_writeCopy_33 : decode c_M_writeCopy 33 = .ok (.iload 6, 2) := by decide +kernel
theorem d_M_writeCopy_35 : decode c_M_writeCopy 35 = .ok (.ifCond .eq 8, 3) := by decide +kernel
theorem d_M_writeCopy_38 : decode c_M_writeCopy 38 = .ok (.bipush (-11), 2) := by decide +kernel
theorem d_M_writeCopy_40 : decode c_M_writeCopy 40 = .ok (.goto 4, 3) := by decide +kernel
theorem d_M_writeCopy_43 : decode c_M_writeCopy 43 = .ok (.iload_n 3, 1) := by decide +kernel
theorem d_M_writeCopy_44 : decode c_M_writeCopy 44 = .ok (.iastore, 1) := by decide +kernel
theorem d_M_writeCopy_45 : decode c_M_writeCopy 45 = .ok (.aload_n 0, 1) := by decide +kernel
theorem d_M_writeCopy_46 : decode c_M_writeCopy 46 = .ok (.getfield 23, 3) := by decide +kernel
theorem d_M_writeCopy_49 : decode c_M_writeCopy 49 = .ok (.iload_n 1, 1) := by decide +kernel
theorem d_M_writeCopy_50 : decode c_M_writeCopy 50 = .ok (.iload 6, 2) := by decide +kernel
theorem d_M_writeCopy_52 : decode c_M_writeCopy 52 = .ok (.ifCond .eq 7, 3) := by decide +kernel
theorem d_M_writeCopy_55 : decode c_M_writeCopy 55 = .ok (.iconst 0, 1) := by decide +kernel
theorem d_M_writeCopy_56 : decode c_M_writeCopy 56 = .ok (.goto 5, 3) := by decide +kernel
theorem d_M_writeCopy_59 : decode c_M_writeCopy 59 = .ok (.iload 4, 2) := by decide +kernel
theorem d_M_writeCopy_61 : decode c_M_writeCopy 61 = .ok (.iastore, 1) := by decide +kernel
theorem d_M_writeCopy_62 : decode c_M_writeCopy 62 = .ok (.iload 6, 2) := by decide +kernel
theorem d_M_writeCopy_64 : decode c_M_writeCopy 64 = .ok (.ifCond .ne 7, 3) := by decide +kernel
theorem d_M_writeCopy_67 : decode c_M_writeCopy 67 = .ok (.iconst 1, 1) := by decide +kernel
theorem d_M_writeCopy_68 : decode c_M_writeCopy 68 = .ok (.goto 4, 3) := by decide +kernel
theorem d_M_writeCopy_71 : decode c_M_writeCopy 71 = .ok (.iconst 0, 1) := by decide +kernel
theorem d_M_writeCopy_72 : decode c_M_writeCopy 72 = .ok (.ireturn, 1) := by decide +kernel
theorem d_M_stops_0 : decode c_M_stops 0 = .ok (.aload_n 0, 1) := by decide +kernel
theorem d_M_stops_1 : decode c_M_stops 1 = .ok (.getfield 80, 3) := by decide +kernel
theorem d_M_stops_4 : decode c_M_stops 4 = .ok (.ifCond .eq 14, 3) := by decide +kernel
theorem d_M_stops_7 : decode c_M_stops 7 = .ok (.aload_n 0, 1) := by decide +kernel
theorem d_M_stops_8 : decode c_M_stops 8 = .ok (.getfield 83, 3) := by decide +kernel
theorem d_M_stops_11 : decode c_M_stops 11 = .ok (.ifCond .ne 7, 3) := by decide +kernel
theorem d_M_stops_14 : decode c_M_stops 14 = .ok (.iconst 1, 1) := by decide +kernel
theorem d_M_stops_15 : decode c_M_stops 15 = .ok (.goto 4, 3) := by decide +kernel
theorem d_M_stops_18 : decode c_M_stops 18 = .ok (.iconst 0, 1) := by decide +kernel
theorem d_M_stops_19 : decode c_M_stops 19 = .ok (.istore_n 1, 1) := by decide +kernel
theorem d_M_stops_20 : decode c_M_stops 20 = .ok (.aload_n 0, 1) := by decide +kernel
theorem d_M_stops_21 : decode c_M_stops 21 = .ok (.dup, 1) := by decide +kernel
theorem d_M_stops_22 : decode c_M_stops 22 = .ok (.getfield 83, 3) := by decide +kernel
theorem d_M_stops_25 : decode c_M_stops 25 = .ok (.iconst 1, 1) := by decide +kernel
theorem d_M_stops_26 : decode c_M_stops 26 = .ok (.isub, 1) := by decide +kernel
theorem d_M_stops_27 : decode c_M_stops 27 = .ok (.putfield 83, 3) := by decide +kernel
theorem d_M_stops_30 : decode c_M_stops 30 = .ok (.iload_n 1, 1) := by decide +kernel
theorem d_M_stops_31 : decode c_M_stops 31 = .ok (.ifCond .eq 13, 3) := by decide +kernel
theorem d_M_stops_34 : decode c_M_stops 34 = .ok (.aload_n 0, 1) := by decide +kernel
theorem d_M_stops_35 : decode c_M_stops 35 = .ok (.iconst 0, 1) := by decide +kernel
theorem d_M_stops_36 : decode c_M_stops 36 = .ok (.putfield 80, 3) := by decide +kernel
theorem d_M_stops_39 : decode c_M_stops 39 = .ok (.aload_n 0, 1) := by decide +kernel
theorem d_M_stops_40 : decode c_M_stops 40 = .ok (.iconst 0, 1) := by decide +kernel
theorem d_M_stops_41 : decode c_M_stops 41 = .ok (.putfield 45, 3) := by decide +kernel
theorem d_M_stops_44 : decode c_M_stops 44 = .ok (.iload_n 1, 1) := by decide +kernel
theorem d_M_stops_45 : decode c_M_stops 45 = .ok (.ireturn, 1) := by decide +kernel
theorem d_M_extend_0 : decode c_M_extend 0 = .ok (.aload_n 0, 1) := by decide +kernel
theorem d_M_extend_1 : decode c_M_extend 1 = .ok (.getfield 45, 3) := by decide +kernel
theorem d_M_extend_4 : decode c_M_extend 4 = .ok (.ifCond .ne 6, 3) := by decide +kernel
theorem d_M_extend_7 : decode c_M_extend 7 = .ok (.bipush (-2), 2) := by decide +kernel
theorem d_M_extend_9 : decode c_M_extend 9 = .ok (.ireturn, 1) := by decide +kernel
theorem d_M_extend_10 : decode c_M_extend 10 = .ok (.aload_n 0, 1) := by decide +kernel
theorem d_M_extend_11 : decode c_M_extend 11 = .ok (.iload_n 1, 1) := by decide +kernel
theorem d_M_extend_12 : decode c_M_extend 12 = .ok (.invokevirtual 117, 3) := by decide +kernel
theorem d_M_extend_15 : decode c_M_extend 15 = .ok (.ifCond .eq 30, 3) := by decide +kernel
theorem d_M_extend_18 : decode c_M_extend 18 = .ok (.iload_n 2, 1) := by decide +kernel
theorem d_M_extend_19 : decode c_M_extend 19 = .ok (.iconst 1, 1) := by decide +kernel
theorem d_M_extend_20 : decode c_M_extend 20 = .ok (.if_icmp .lt 25, 3) := by decide +kernel
theorem d_M_extend_23 : decode c_M_extend 23 = .ok (.iload_n 2, 1) := by decide +kernel
theorem d_M_extend_24 : decode c_M_extend 24 = .ok (.bipush 12, 2) := by decide +kernel
theorem d_M_extend_26 : decode c_M_extend 26 = .ok (.aload_n 0, 1) := by decide +kernel
theorem d_M_extend_27 : decode c_M_extend 27 = .ok (.bipush 15, 2) := by decide +kernel
theorem d_M_extend_29 : decode c_M_extend 29 = .ok (.iload_n 1, 1) := by decide +kernel
theorem d_M_extend_30 : decode c_M_extend 30 = .ok (.invokevirtual 56, 3) := by decide +kernel
theorem d_M_extend_33 : decode c_M_extend 33 = .ok (.idiv, 1) := by decide +kernel
theorem d_M_extend_34 : decode c_M_extend 34 = .ok (.aload_n 0, 1) := by decide +kernel
theorem d_M_extend_35 : decode c_M_extend 35 = .ok (.bipush 15, 2) := by decide +kernel
theorem d_M_extend_37 : decode c_M_extend 37 = .ok (.iload_n 1, 1) := by decide +kernel
theorem d_M_extend_38 : decode c_M_extend 38 = .ok (.invokevirtual 53, 3) := by decide +kernel
theorem d_M_extend_41 : decode c_M_extend 41 = .ok (.isub, 1) := by decide +kernel
theorem d_M_extend_42 : decode c_M_extend 42 = .ok (.if_icmp .le 5, 3) := by decide +kernel
theorem d_M_extend_45 : decode c_M_extend 45 = .ok (.iconst (-1), 1) := by decide +kernel
theorem d_M_extend_46 : decode c_M_extend 46 = .ok (.ireturn, 1) := by decide +kernel
theorem d_M_extend_47 : decode c_M_extend 47 = .ok (.aload_n 0, 1) := by decide +kernel
theorem d_M_extend_48 : decode c_M_extend 48 = .ok (.invokevirtual 108, 3) := by decide +kernel
theorem d_M_extend_51 : decode c_M_extend 51 = .ok (.ifCond .eq 6, 3) := by decide +kernel
theorem d_M_extend_54 : decode c_M_extend 54 = .ok (.bipush (-3), 2) := by decide +kernel
theorem d_M_extend_56 : decode c_M_extend 56 = .ok (.ireturn, 1) := by decide +kernel
theorem d_M_extend_57 : decode c_M_extend 57 = .ok (.aload_n 0, 1) := by decide +kernel
theorem d_M_extend_58 : decode c_M_extend 58 = .ok (.iload_n 1, 1) := by decide +kernel
theorem d_M_extend_59 : decode c_M_extend 59 = .ok (.invokevirtual 120, 3) := by decide +kernel
theorem d_M_extend_62 : decode c_M_extend 62 = .ok (.ifCond .eq 6, 3) := by decide +kernel
theorem d_M_extend_65 : decode c_M_extend 65 = .ok (.bipush (-4), 2) := by decide +kernel
theorem d_M_extend_67 : decode c_M_extend 67 = .ok (.ireturn, 1) := by decide +kernel
theorem d_M_extend_68 : decode c_M_extend 68 = .ok (.aload_n 0, 1) := by decide +kernel
theorem d_M_extend_69 : decode c_M_extend 69 = .ok (.bipush 15, 2) := by decide +kernel
theorem d_M_extend_71 : decode c_M_extend 71 = .ok (.bipush 16, 2) := by decide +kernel
theorem d_M_extend_73 : decode c_M_extend 73 = .ok (.invokevirtual 90, 3) := by decide +kernel
theorem d_M_extend_76 : decode c_M_extend 76 = .ok (.iconst 0, 1) := by decide +kernel
theorem d_M_extend_77 : decode c_M_extend 77 = .ok (.istore_n 3, 1) := by decide +kernel
theorem d_M_extend_78 : decode c_M_extend 78 = .ok (.iload_n 3, 1) := by decide +kernel
theorem d_M_extend_79 : decode c_M_extend 79 = .ok (.iload_n 2, 1) := by decide +kernel
theorem d_M_extend_80 : decode c_M_extend 80 = .ok (.if_icmp .ge 20, 3) := by decide +kernel
theorem d_M_extend_83 : decode c_M_extend 83 = .ok (.aload_n 0, 1) := by decide +kernel
theorem d_M_extend_84 : decode c_M_extend 84 = .ok (.iload_n 1, 1) := by decide +kernel
theorem d_M_extend_85 : decode c_M_extend 85 = .ok (.invokevirtual 111, 3) := by decide +kernel
theorem d_M_extend_88 : decode c_M_extend 88 = .ok (.ifCond .ne 6, 3) := by decide +kernel
theorem d_M_extend_91 : decode c_M_extend 91 = .ok (.bipush (-5), 2) := by decide +kernel
theorem d_M_extend_93 : decode c_M_extend 93 = .ok (.ireturn, 1) := by decide +kernel
theorem d_M_extend_94 : decode c_M_extend 94 = .ok (.iinc 3 1, 3) := by decide +kernel
theorem d_M_extend_97 : decode c_M_extend 97 = .ok (.goto (-19), 3) := by decide +kernel
theorem d_M_extend_100 : decode c_M_extend 100 = .ok (.aload_n 0, 1) := by decide +kernel
theorem d_M_extend_101 : decode c_M_extend 101 = .ok (.invokevirtual 114, 3) := by decide +kernel
theorem d_M_extend_104 : decode c_M_extend 104 = .ok (.ifCond .eq 13, 3) := by decide +kernel
theorem d_M_extend_107 : decode c_M_extend 107 = .ok (.aload_n 0, 1) := by decide +kernel
theorem d_M_extend_108 : decode c_M_extend 108 = .ok (.bipush 15, 2) := by decide +kernel
theorem d_M_extend_110 : decode c_M_extend 110 = .ok (.iload_n 1, 1) := by decide +kernel
theorem d_M_extend_111 : decode c_M_extend 111 = .ok (.invokevirtual 53, 3) := by decide +kernel
theorem d_M_extend_114 : decode c_M_extend 114 = .ok (.goto 5, 3) := by decide +kernel
theorem d_M_extend_117 : decode c_M_extend 117 = .ok (.bipush (-7), 2) := by decide +kernel
theorem d_M_extend_119 : decode c_M_extend 119 = .ok (.ireturn, 1) := by decide +kernel
theorem d_M_isVolume_0 : decode c_M_isVolume 0 = .ok (.iload_n 1, 1) := by decide +kernel
theorem d_M_isVolume_1 : decode c_M_isVolume 1 = .ok (.ifCond .lt 22, 3) := by decide +kernel
theorem d_M_isVolume_4 : decode c_M_isVolume 4 = .ok (.iload_n 1, 1) := by decide +kernel
theorem d_M_isVolume_5 : decode c_M_isVolume 5 = .ok (.iconst 4, 1) := by decide +kernel
theorem d_M_isVolume_6 : decode c_M_isVolume 6 = .ok (.if_icmp .ge 17, 3) := by decide +kernel
theorem d_M_isVolume_9 : decode c_M_isVolume 9 = .ok (.aload_n 0, 1) := by decide +kernel
theorem d_M_isVolume_10 : decode c_M_isVolume 10 = .ok (.bipush 15, 2) := by decide +kernel
theorem d_M_isVolume_12 : decode c_M_isVolume 12 = .ok (.iload_n 1, 1) := by decide +kernel
theorem d_M_isVolume_13 : decode c_M_isVolume 13 = .ok (.invokevirtual 53, 3) := by decide +kernel
theorem d_M_isVolume_16 : decode c_M_isVolume 16 = .ok (.ifCond .le 7, 3) := by decide +kernel
theorem d_M_isVolume_19 : decode c_M_isVolume 19 = .ok (.iconst 1, 1) := by decide +kernel
theorem d_M_isVolume_20 : decode c_M_isVolume 20 = .ok (.goto 4, 3) := by decide +kernel
theorem d_M_isVolume_23 : decode c_M_isVolume 23 = .ok (.iconst 0, 1) := by decide +kernel
theorem d_M_isVolume_24 : decode c_M_isVolume 24 = .ok (.ireturn, 1) := by decide +kernel
theorem d_M_isMoved_0 : decode c_M_isMoved 0 = .ok (.aload_n 0, 1) := by decide +kernel
theorem d_M_isMoved_1 : decode c_M_isMoved 1 = .ok (.bipush 15, 2) := by decide +kernel
theorem d_M_isMoved_3 : decode c_M_isMoved 3 = .ok (.bipush 60, 2) := by decide +kernel
theorem d_M_isMoved_5 : decode c_M_isMoved 5 = .ok (.invokevirtual 49, 3) := by decide +kernel
theorem d_M_isMoved_8 : decode c_M_isMoved 8 = .ok (.iload_n 1, 1) := by decide +kernel
theorem d_M_isMoved_9 : decode c_M_isMoved 9 = .ok (.if_icmp .ne 7, 3) := by decide +kernel
theorem d_M_isMoved_12 : decode c_M_isMoved 12 = .ok (.iconst 1, 1) := by decide +kernel
theorem d_M_isMoved_13 : decode c_M_isMoved 13 = .ok (.goto 4, 3) := by decide +kernel
theorem d_M_isMoved_16 : decode c_M_isMoved 16 = .ok (.iconst 0, 1) := by decide +kernel
theorem d_M_isMoved_17 : decode c_M_isMoved 17 = .ok (.ireturn, 1) := by decide +kernel
theorem d_M_reduce_0 : decode c_M_reduce 0 = .ok (.aload_n 0, 1) := by decide +kernel
theorem d_M_reduce_1 : decode c_M_reduce 1 = .ok (.getfield 45, 3) := by decide +kernel
theorem d_M_reduce_4 : decode c_M_reduce 4 = .ok (.ifCond .ne 6, 3) := by decide +kernel
theorem d_M_reduce_7 : decode c_M_reduce 7 = .ok (.bipush (-2), 2) := by decide +kernel
theorem d_M_reduce_9 : decode c_M_reduce 9 = .ok (.ireturn, 1) := by decide +kernel
theorem d_M_reduce_10 : decode c_M_reduce 10 = .ok (.aload_n 0, 1) := by decide +kernel
theorem d_M_reduce_11 : decode c_M_reduce 11 = .ok (.iload_n 1, 1) := by decide +kernel
theorem d_M_reduce_12 : decode c_M_reduce 12 = .ok (.invokevirtual 117, 3) := by decide +kernel
theorem d_M_reduce_15 : decode c_M_reduce 15 = .ok (.ifCond .eq 19, 3) := by decide +kernel
theorem d_M_reduce_18 : decode c_M_reduce 18 = .ok (.iload_n 2, 1) := by decide +kernel
theorem d_M_reduce_19 : decode c_M_reduce 19 = .ok (.iconst 1, 1) := by decide +kernel
theorem d_M_reduce_20 : decode c_M_reduce 20 = .ok (.if_icmp .lt 14, 3) := by decide +kernel
theorem d_M_reduce_23 : decode c_M_reduce 23 = .ok (.iload_n 2, 1) := by decide +kernel
theorem d_M_reduce_24 : decode c_M_reduce 24 = .ok (.aload_n 0, 1) := by decide +kernel
theorem d_M_reduce_25 : decode c_M_reduce 25 = .ok (.bipush 15, 2) := by decide +kernel
theorem d_M_reduce_27 : decode c_M_reduce 27 = .ok (.iload_n 1, 1) := by decide +kernel
theorem d_M_reduce_28 : decode c_M_reduce 28 = .ok (.invokevirtual 53, 3) := by decide +kernel
theorem d_M_reduce_31 : decode c_M_reduce 31 = .ok (.if_icmp .le 5, 3) := by decide +kernel
theorem d_M_reduce_34 : decode c_M_reduce 34 = .ok (.iconst (-1), 1) := by decide +kernel
theorem d_M_reduce_35 : decode c_M_reduce 35 = .ok (.ireturn, 1) := by decide +kernel
theorem d_M_reduce_36 : decode c_M_reduce 36 = .ok (.aload_n 0, 1) := by decide +kernel
theorem d_M_reduce_37 : decode c_M_reduce 37 = .ok (.invokevirtual 108, 3) := by decide +kernel
theorem d_M_reduce_40 : decode c_M_reduce 40 = .ok (.ifCond .eq 6, 3) := by decide +kernel
theorem d_M_reduce_43 : decode c_M_reduce 43 = .ok (.bipush (-3), 2) := by decide +kernel
theorem d_M_reduce_45 : decode c_M_reduce 45 = .ok (.ireturn, 1) := by decide +kernel
theorem d_M_reduce_46 : decode c_M_reduce 46 = .ok (.aload_n 0, 1) := by decide +kernel
theorem d_M_reduce_47 : decode c_M_reduce 47 = .ok (.iload_n 1, 1) := by decide +kernel
theorem d_M_reduce_48 : decode c_M_reduce 48 = .ok (.invokevirtual 120, 3) := by decide +kernel
theorem d_M_reduce_51 : decode c_M_reduce 51 = .ok (.ifCond .eq 6, 3) := by decide +kernel
theorem d_M_reduce_54 : decode c_M_reduce 54 = .ok (.bipush (-4), 2) := by decide +kernel
theorem d_M_reduce_56 : decode c_M_reduce 56 = .ok (.ireturn, 1) := by decide +kernel
theorem d_M_reduce_57 : decode c_M_reduce 57 = .ok (.aload_n 0, 1) := by decide +kernel
theorem d_M_reduce_58 : decode c_M_reduce 58 = .ok (.bipush 15, 2) := by decide +kernel
theorem d_M_reduce_60 : decode c_M_reduce 60 = .ok (.bipush 16, 2) := by decide +kernel
theorem d_M_reduce_62 : decode c_M_reduce 62 = .ok (.invokevirtual 90, 3) := by decide +kernel
theorem d_M_reduce_65 : decode c_M_reduce 65 = .ok (.aload_n 0, 1) := by decide +kernel
theorem d_M_reduce_66 : decode c_M_reduce 66 = .ok (.bipush 16, 2) := by decide +kernel
theorem d_M_reduce_68 : decode c_M_reduce 68 = .ok (.bipush 15, 2) := by decide +kernel
theorem d_M_reduce_70 : decode c_M_reduce 70 = .ok (.iload_n 1, 1) := by decide +kernel
theorem d_M_reduce_71 : decode c_M_reduce 71 = .ok (.imul, 1) := by decide +kernel
theorem d_M_reduce_72 : decode c_M_reduce 72 = .ok (.iconst 2, 1) := by decide +kernel
theorem d_M_reduce_73 : decode c_M_reduce 73 = .ok (.iadd, 1) := by decide +kernel
theorem d_M_reduce_74 : decode c_M_reduce 74 = .ok (.aload_n 0, 1) := by decide +kernel
theorem d_M_reduce_75 : decode c_M_reduce 75 = .ok (.bipush 15, 2) := by decide +kernel
theorem d_M_reduce_77 : decode c_M_reduce 77 = .ok (.iload_n 1, 1) := by decide +kernel
theorem d_M_reduce_78 : decode c_M_reduce 78 = .ok (.invokevirtual 53, 3) := by decide +kernel
theorem d_M_reduce_81 : decode c_M_reduce 81 = .ok (.iload_n 2, 1) := by decide +kernel
theorem d_M_reduce_82 : decode c_M_reduce 82 = .ok (.isub, 1) := by decide +kernel
theorem d_M_reduce_83 : decode c_M_reduce 83 = .ok (.invokevirtual 76, 3) := by decide +kernel
theorem d_M_reduce_86 : decode c_M_reduce 86 = .ok (.aload_n 0, 1) := by decide +kernel
theorem d_M_reduce_87 : decode c_M_reduce 87 = .ok (.invokevirtual 114, 3) := by decide +kernel
theorem d_M_reduce_90 : decode c_M_reduce 90 = .ok (.ifCond .eq 13, 3) := by decide +kernel
theorem d_M_reduce_93 : decode c_M_reduce 93 = .ok (.aload_n 0, 1) := by decide +kernel
theorem d_M_reduce_94 : decode c_M_reduce 94 = .ok (.bipush 15, 2) := by decide +kernel
theorem d_M_reduce_96 : decode c_M_reduce 96 = .ok (.iload_n 1, 1) := by decide +kernel
theorem d_M_reduce_97 : decode c_M_reduce 97 = .ok (.invokevirtual 53, 3) := by decide +kernel
theorem d_M_reduce_100 : decode c_M_reduce 100 = .ok (.goto 5, 3) := by decide +kernel
theorem d_M_reduce_103 : decode c_M_reduce 103 = .ok (.bipush (-7), 2) := by decide +kernel
theorem d_M_reduce_105 : decode c_M_reduce 105 = .ok (.ireturn, 1) := by decide +kernel
theorem d_M_move_0 : decode c_M_move 0 = .ok (.aload_n 0, 1) := by decide +kernel
theorem d_M_move_1 : decode c_M_move 1 = .ok (.getfield 45, 3) := by decide +kernel
theorem d_M_move_4 : decode c_M_move 4 = .ok (.ifCond .ne 6, 3) := by decide +kernel
theorem d_M_move_7 : decode c_M_move 7 = .ok (.bipush (-2), 2) := by decide +kernel
theorem d_M_move_9 : decode c_M_move 9 = .ok (.ireturn, 1) := by decide +kernel
theorem d_M_move_10 : decode c_M_move 10 = .ok (.aload_n 0, 1) := by decide +kernel
theorem d_M_move_11 : decode c_M_move 11 = .ok (.iload_n 1, 1) := by decide +kernel
theorem d_M_move_12 : decode c_M_move 12 = .ok (.iload_n 2, 1) := by decide +kernel
theorem d_M_move_13 : decode c_M_move 13 = .ok (.invokevirtual 123, 3) := by decide +kernel
theorem d_M_move_16 : decode c_M_move 16 = .ok (.ifCond .eq 15, 3) := by decide +kernel
theorem d_M_move_19 : decode c_M_move 19 = .ok (.iload_n 3, 1) := by decide +kernel
theorem d_M_move_20 : decode c_M_move 20 = .ok (.ifCond .lt 11, 3) := by decide +kernel
theorem d_M_move_23 : decode c_M_move 23 = .ok (.iload_n 3, 1) := by decide +kernel
theorem d_M_move_24 : decode c_M_move 24 = .ok (.aload_n 0, 1) := by decide +kernel
theorem d_M_move_25 : decode c_M_move 25 = .ok (.getfield 29, 3) := by decide +kernel
theorem d_M_move_28 : decode c_M_move 28 = .ok (.if_icmp .lt 5, 3) := by decide +kernel
theorem d_M_move_31 : decode c_M_move 31 = .ok (.iconst (-1), 1) := by decide +kernel
theorem d_M_move_32 : decode c_M_move 32 = .ok (.ireturn, 1) := by decide +kernel
theorem d_M_move_33 : decode c_M_move 33 = .ok (.aload_n 0, 1) := by decide +kernel
theorem d_M_move_34 : decode c_M_move 34 = .ok (.invokevirtual 108, 3) := by decide +kernel
theorem d_M_move_37 : decode c_M_move 37 = .ok (.ifCond .eq 6, 3) := by decide +kernel
theorem d_M_move_40 : decode c_M_move 40 = .ok (.bipush (-3), 2) := by decide +kernel
theorem d_M_move_42 : decode c_M_move 42 = .ok (.ireturn, 1) := by decide +kernel
theorem d_M_move_43 : decode c_M_move 43 = .ok (.aload_n 0, 1) := by decide +kernel
theorem d_M_move_44 : decode c_M_move 44 = .ok (.bipush 15, 2) := by decide +kernel
theorem d_M_move_46 : decode c_M_move 46 = .ok (.bipush 60, 2) := by decide +kernel
theorem d_M_move_48 : decode c_M_move 48 = .ok (.invokevirtual 49, 3) := by decide +kernel
theorem d_M_move_51 : decode c_M_move 51 = .ok (.ifCond .lt 6, 3) := by decide +kernel
theorem d_M_move_54 : decode c_M_move 54 = .ok (.bipush (-4), 2) := by decide +kernel
theorem d_M_move_56 : decode c_M_move 56 = .ok (.ireturn, 1) := by decide +kernel
theorem d_M_move_57 : decode c_M_move 57 = .ok (.aload_n 0, 1) := by decide +kernel
theorem d_M_move_58 : decode c_M_move 58 = .ok (.bipush 15, 2) := by decide +kernel
theorem d_M_move_60 : decode c_M_move 60 = .ok (.bipush 15, 2) := by decide +kernel
theorem d_M_move_62 : decode c_M_move 62 = .ok (.iload_n 1, 1) := by decide +kernel
theorem d_M_move_63 : decode c_M_move 63 = .ok (.imul, 1) := by decide +kernel
theorem d_M_move_64 : decode c_M_move 64 = .ok (.iconst 3, 1) := by decide +kernel
theorem d_M_move_65 : decode c_M_move 65 = .ok (.iadd, 1) := by decide +kernel
theorem d_M_move_66 : decode c_M_move 66 = .ok (.iload_n 2, 1) := by decide +kernel
theorem d_M_move_67 : decode c_M_move 67 = .ok (.iadd, 1) := by decide +kernel
theorem d_M_move_68 : decode c_M_move 68 = .ok (.invokevirtual 49, 3) := by decide +kernel
theorem d_M_move_71 : decode c_M_move 71 = .ok (.istore 4, 2) := by decide +kernel
theorem d_M_move_73 : decode c_M_move 73 = .ok (.aload_n 0, 1) := by decide +kernel
theorem d_M_move_74 : decode c_M_move 74 = .ok (.getfield 7, 3) := by decide +kernel
theorem d_M_move_77 : decode c_M_move 77 = .ok (.iload 4, 2) := by decide +kernel
theorem d_M_move_79 : decode c_M_move 79 = .ok (.bipush 16, 2) := by decide +kernel
theorem d_M_move_81 : decode c_M_move 81 = .ok (.idiv, 1) := by decide +kernel
theorem d_M_move_82 : decode c_M_move 82 = .ok (.baload, 1) := by decide +kernel
theorem d_M_move_83 : decode c_M_move 83 = .ok (.ifCond .eq 12, 3) := by decide +kernel
theorem d_M_move_86 : decode c_M_move 86 = .ok (.aload_n 0, 1) := by decide +kernel
theorem d_M_move_87 : decode c_M_move 87 = .ok (.getfield 7, 3) := by decide +kernel
theorem d_M_move_90 : decode c_M_move 90 = .ok (.iload_n 3, 1) := by decide +kernel
theorem d_M_move_91 : decode c_M_move 91 = .ok (.baload, 1) := by decide +kernel
theorem d_M_move_92 : decode c_M_move 92 = .ok (.ifCond .ne 6, 3) := by decide +kernel
theorem d_M_move_95 : decode c_M_move 95 = .ok (.bipush (-6), 2) := by decide +kernel
theorem d_M_move_97 : decode c_M_move 97 = .ok (.ireturn, 1) := by decide +kernel
theorem d_M_move_98 : decode c_M_move 98 = .ok (.aload_n 0, 1) := by decide +kernel
theorem d_M_move_99 : decode c_M_move 99 = .ok (.bipush 15, 2) := by decide +kernel
theorem d_M_move_101 : decode c_M_move 101 = .ok (.iload_n 3, 1) := by decide +kernel
theorem d_M_move_102 : decode c_M_move 102 = .ok (.invokevirtual 73, 3) := by decide +kernel
theorem d_M_move_105 : decode c_M_move 105 = .ok (.istore 5, 2) := by decide +kernel
theorem d_M_move_107 : decode c_M_move 107 = .ok (.iload 5, 2) := by decide +kernel
theorem d_M_move_109 : decode c_M_move 109 = .ok (.ifCond .ge 6, 3) := by decide +kernel
theorem d_M_move_112 : decode c_M_move 112 = .ok (.bipush (-5), 2) := by decide +kernel
theorem d_M_move_114 : decode c_M_move 114 = .ok (.ireturn, 1) := by decide +kernel
theorem d_M_move_115 : decode c_M_move 115 = .ok (.aload_n 0, 1) := by decide +kernel
theorem d_M_move_116 : decode c_M_move 116 = .ok (.bipush 15, 2) := by decide +kernel
theorem d_M_move_118 : decode c_M_move 118 = .ok (.bipush 16, 2) := by decide +kernel
theorem d_M_move_120 : decode c_M_move 120 = .ok (.invokevirtual 90, 3) := by decide +kernel
theorem d_M_move_123 : decode c_M_move 123 = .ok (.aload_n 0, 1) := by decide +kernel
theorem d_M_move_124 : decode c_M_move 124 = .ok (.bipush 16, 2) := by decide +kernel
theorem d_M_move_126 : decode c_M_move 126 = .ok (.bipush 60, 2) := by decide +kernel
theorem d_M_move_128 : decode c_M_move 128 = .ok (.iload_n 1, 1) := by decide +kernel
theorem d_M_move_129 : decode c_M_move 129 = .ok (.invokevirtual 76, 3) := by decide +kernel
theorem d_M_move_132 : decode c_M_move 132 = .ok (.aload_n 0, 1) := by decide +kernel
theorem d_M_move_133 : decode c_M_move 133 = .ok (.bipush 16, 2) := by decide +kernel
theorem d_M_move_135 : decode c_M_move 135 = .ok (.bipush 61, 2) := by decide +kernel
theorem d_M_move_137 : decode c_M_move 137 = .ok (.iload_n 2, 1) := by decide +kernel
theorem d_M_move_138 : decode c_M_move 138 = .ok (.invokevirtual 76, 3) := by decide +kernel
theorem d_M_move_141 : decode c_M_move 141 = .ok (.aload_n 0, 1) := by decide +kernel
theorem d_M_move_142 : decode c_M_move 142 = .ok (.bipush 16, 2) := by decide +kernel
theorem d_M_move_144 : decode c_M_move 144 = .ok (.bipush 62, 2) := by decide +kernel
theorem d_M_move_146 : decode c_M_move 146 = .ok (.iload 5, 2) := by decide +kernel
theorem d_M_move_148 : decode c_M_move 148 = .ok (.invokevirtual 76, 3) := by decide +kernel
theorem d_M_move_151 : decode c_M_move 151 = .ok (.aload_n 0, 1) := by decide +kernel
theorem d_M_move_152 : decode c_M_move 152 = .ok (.invokevirtual 114, 3) := by decide +kernel
theorem d_M_move_155 : decode c_M_move 155 = .ok (.ifCond .ne 6, 3) := by decide +kernel
theorem d_M_move_158 : decode c_M_move 158 = .ok (.bipush (-7), 2) := by decide +kernel
theorem d_M_move_160 : decode c_M_move 160 = .ok (.ireturn, 1) := by decide +kernel
theorem d_M_move_161 : decode c_M_move 161 = .ok (.aload_n 0, 1) := by decide +kernel
theorem d_M_move_162 : decode c_M_move 162 = .ok (.iconst 0, 1) := by decide +kernel
theorem d_M_move_163 : decode c_M_move 163 = .ok (.putfield 126, 3) := by decide +kernel
theorem d_M_move_166 : decode c_M_move 166 = .ok (.iconst 0, 1) := by decide +kernel
theorem d_M_move_167 : decode c_M_move 167 = .ok (.ireturn, 1) := by decide +kernel
theorem d_M_isExtent_0 : decode c_M_isExtent 0 = .ok (.aload_n 0, 1) := by decide +kernel
theorem d_M_isExtent_1 : decode c_M_isExtent 1 = .ok (.iload_n 1, 1) := by decide +kernel
theorem d_M_isExtent_2 : decode c_M_isExtent 2 = .ok (.invokevirtual 117, 3) := by decide +kernel
theorem d_M_isExtent_5 : decode c_M_isExtent 5 = .ok (.ifCond .eq 22, 3) := by decide +kernel
theorem d_M_isExtent_8 : decode c_M_isExtent 8 = .ok (.iload_n 2, 1) := by decide +kernel
theorem d_M_isExtent_9 : decode c_M_isExtent 9 = .ok (.ifCond .lt 18, 3) := by decide +kernel
theorem d_M_isExtent_12 : decode c_M_isExtent 12 = .ok (.iload_n 2, 1) := by decide +kernel
theorem d_M_isExtent_13 : decode c_M_isExtent 13 = .ok (.aload_n 0, 1) := by decide +kernel
theorem d_M_isExtent_14 : decode c_M_isExtent 14 = .ok (.bipush 15, 2) := by decide +kernel
theorem d_M_isExtent_16 : decode c_M_isExtent 16 = .ok (.iload_n 1, 1) := by decide +kernel
theorem d_M_isExtent_17 : decode c_M_isExtent 17 = .ok (.invokevirtual 59, 3) := by decide +kernel
theorem d_M_isExtent_20 : decode c_M_isExtent 20 = .ok (.if_icmp .ge 7, 3) := by decide +kernel
theorem d_M_isExtent_23 : decode c_M_isExtent 23 = .ok (.iconst 1, 1) := by decide +kernel
theorem d_M_isExtent_24 : decode c_M_isExtent 24 = .ok (.goto 4, 3) := by decide +kernel
theorem d_M_isExtent_27 : decode c_M_isExtent 27 = .ok (.iconst 0, 1) := by decide +kernel
theorem d_M_isExtent_28 : decode c_M_isExtent 28 = .ok (.ireturn, 1) := by decide +kernel
theorem d_M_step_0 : decode c_M_step 0 = .ok (.aload_n 0, 1) := by decide +kernel
theorem d_M_step_1 : decode c_M_step 1 = .ok (.getfield 45, 3) := by decide +kernel
theorem d_M_step_4 : decode c_M_step 4 = .ok (.ifCond .ne 6, 3) := by decide +kernel
theorem d_M_step_7 : decode c_M_step 7 = .ok (.bipush (-2), 2) := by decide +kernel
theorem d_M_step_9 : decode c_M_step 9 = .ok (.ireturn, 1) := by decide +kernel
theorem d_M_step_10 : decode c_M_step 10 = .ok (.aload_n 0, 1) := by decide +kernel
theorem d_M_step_11 : decode c_M_step 11 = .ok (.bipush 15, 2) := by decide +kernel
theorem d_M_step_13 : decode c_M_step 13 = .ok (.bipush 60, 2) := by decide +kernel
theorem d_M_step_15 : decode c_M_step 15 = .ok (.invokevirtual 49, 3) := by decide +kernel
theorem d_M_step_18 : decode c_M_step 18 = .ok (.ifCond .ge 6, 3) := by decide +kernel
theorem d_M_step_21 : decode c_M_step 21 = .ok (.bipush (-8), 2) := by decide +kernel
theorem d_M_step_23 : decode c_M_step 23 = .ok (.ireturn, 1) := by decide +kernel
theorem d_M_step_24 : decode c_M_step 24 = .ok (.aload_n 0, 1) := by decide +kernel
theorem d_M_step_25 : decode c_M_step 25 = .ok (.invokevirtual 108, 3) := by decide +kernel
theorem d_M_step_28 : decode c_M_step 28 = .ok (.ifCond .eq 6, 3) := by decide +kernel
theorem d_M_step_31 : decode c_M_step 31 = .ok (.bipush (-3), 2) := by decide +kernel
theorem d_M_step_33 : decode c_M_step 33 = .ok (.ireturn, 1) := by decide +kernel
theorem d_M_step_34 : decode c_M_step 34 = .ok (.aload_n 0, 1) := by decide +kernel
theorem d_M_step_35 : decode c_M_step 35 = .ok (.invokevirtual 129, 3) := by decide +kernel
theorem d_M_step_38 : decode c_M_step 38 = .ok (.istore_n 1, 1) := by decide +kernel
theorem d_M_step_39 : decode c_M_step 39 = .ok (.aload_n 0, 1) := by decide +kernel
theorem d_M_step_40 : decode c_M_step 40 = .ok (.invokevirtual 133, 3) := by decide +kernel
theorem d_M_step_43 : decode c_M_step 43 = .ok (.istore_n 2, 1) := by decide +kernel
theorem d_M_step_44 : decode c_M_step 44 = .ok (.aload_n 0, 1) := by decide +kernel
theorem d_M_step_45 : decode c_M_step 45 = .ok (.getfield 7, 3) := by decide +kernel
theorem d_M_step_48 : decode c_M_step 48 = .ok (.iload_n 1, 1) := by decide +kernel
theorem d_M_step_49 : decode c_M_step 49 = .ok (.bipush 16, 2) := by decide +kernel
theorem d_M_step_51 : decode c_M_step 51 = .ok (.idiv, 1) := by decide +kernel
theorem d_M_step_52 : decode c_M_step 52 = .ok (.baload, 1) := by decide +kernel
theorem d_M_step_53 : decode c_M_step 53 = .ok (.ifCond .eq 15, 3) := by decide +kernel
theorem d_M_step_56 : decode c_M_step 56 = .ok (.aload_n 0, 1) := by decide +kernel
theorem d_M_step_57 : decode c_M_step 57 = .ok (.getfield 7, 3) := by decide +kernel
theorem d_M_step_60 : decode c_M_step 60 = .ok (.iload_n 2, 1) := by decide +kernel
theorem d_M_step_61 : decode c_M_step 61 = .ok (.bipush 16, 2) := by decide +kernel
theorem d_M_step_63 : decode c_M_step 63 = .ok (.idiv, 1) := by decide +kernel
theorem d_M_step_64 : decode c_M_step 64 = .ok (.baload, 1) := by decide +kernel
theorem d_M_step_65 : decode c_M_step 65 = .ok (.ifCond .ne 6, 3) := by decide +kernel
theorem d_M_step_68 : decode c_M_step 68 = .ok (.bipush (-6), 2) := by decide +kernel
theorem d_M_step_70 : decode c_M_step 70 = .ok (.ireturn, 1) := by decide +kernel
theorem d_M_step_71 : decode c_M_step 71 = .ok (.aload_n 0, 1) := by decide +kernel
theorem d_M_step_72 : decode c_M_step 72 = .ok (.getfield 126, 3) := by decide +kernel
theorem d_M_step_75 : decode c_M_step 75 = .ok (.iconst 4, 1) := by decide +kernel
theorem d_M_step_76 : decode c_M_step 76 = .ok (.if_icmp .ge 58, 3) := by decide +kernel
theorem d_M_step_79 : decode c_M_step 79 = .ok (.aload_n 0, 1) := by decide +kernel
theorem d_M_step_80 : decode c_M_step 80 = .ok (.invokevirtual 86, 3) := by decide +kernel
theorem d_M_step_83 : decode c_M_step 83 = .ok (.ifCond .eq 6, 3) := by decide +kernel
theorem d_M_step_86 : decode c_M_step 86 = .ok (.bipush (-7), 2) := by decide +kernel
theorem d_M_step_88 : decode c_M_step 88 = .ok (.ireturn, 1) := by decide +kernel
theorem d_M_step_89 : decode c_M_step 89 = .ok (.aload_n 0, 1) := by decide +kernel
theorem d_M_step_90 : decode c_M_step 90 = .ok (.getfield 13, 3) := by decide +kernel
theorem d_M_step_93 : decode c_M_step 93 = .ok (.aload_n 0, 1) := by decide +kernel
theorem d_M_step_94 : decode c_M_step 94 = .ok (.iload_n 2, 1) := by decide +kernel
theorem d_M_step_95 : decode c_M_step 95 = .ok (.aload_n 0, 1) := by decide +kernel
theorem d_M_step_96 : decode c_M_step 96 = .ok (.getfield 126, 3) := by decide +kernel
theorem d_M_step_99 : decode c_M_step 99 = .ok (.invokevirtual 136, 3) := by decide +kernel
theorem d_M_step_102 : decode c_M_step 102 = .ok (.aload_n 0, 1) := by decide +kernel
theorem d_M_step_103 : decode c_M_step 103 = .ok (.getfield 13, 3) := by decide +kernel
theorem d_M_step_106 : decode c_M_step 106 = .ok (.aload_n 0, 1) := by decide +kernel
theorem d_M_step_107 : decode c_M_step 107 = .ok (.iload_n 1, 1) := by decide +kernel
theorem d_M_step_108 : decode c_M_step 108 = .ok (.aload_n 0, 1) := by decide +kernel
theorem d_M_step_109 : decode c_M_step 109 = .ok (.getfield 126, 3) := by decide +kernel
theorem d_M_step_112 : decode c_M_step 112 = .ok (.invokevirtual 136, 3) := by decide +kernel
theorem d_M_step_115 : decode c_M_step 115 = .ok (.iaload, 1) := by decide +kernel
theorem d_M_step_116 : decode c_M_step 116 = .ok (.iastore, 1) := by decide +kernel
theorem d_M_step_117 : decode c_M_step 117 = .ok (.aload_n 0, 1) := by decide +kernel
theorem d_M_step_118 : decode c_M_step 118 = .ok (.dup, 1) := by decide +kernel
theorem d_M_step_119 : decode c_M_step 119 = .ok (.getfield 126, 3) := by decide +kernel
theorem d_M_step_122 : decode c_M_step 122 = .ok (.iconst 1, 1) := by decide +kernel
theorem d_M_step_123 : decode c_M_step 123 = .ok (.iadd, 1) := by decide +kernel
theorem d_M_step_124 : decode c_M_step 124 = .ok (.putfield 126, 3) := by decide +kernel
theorem d_M_step_127 : decode c_M_step 127 = .ok (.iconst 4, 1) := by decide +kernel
theorem d_M_step_128 : decode c_M_step 128 = .ok (.aload_n 0, 1) := by decide +kernel
theorem d_M_step_129 : decode c_M_step 129 = .ok (.getfield 126, 3) := by decide +kernel
theorem d_M_step_132 : decode c_M_step 132 = .ok (.isub, 1) := by decide +kernel
theorem d_M_step_133 : decode c_M_step 133 = .ok (.ireturn, 1) := by decide +kernel
theorem d_M_step_134 : decode c_M_step 134 = .ok (.aload_n 0, 1) := by decide +kernel
theorem d_M_step_135 : decode c_M_step 135 = .ok (.bipush 15, 2) := by decide +kernel
theorem d_M_step_137 : decode c_M_step 137 = .ok (.bipush 16, 2) := by decide +kernel
theorem d_M_step_139 : decode c_M_step 139 = .ok (.invokevirtual 90, 3) := by decide +kernel
theorem d_M_step_142 : decode c_M_step 142 = .ok (.aload_n 0, 1) := by decide +kernel
theorem d_M_step_143 : decode c_M_step 143 = .ok (.bipush 16, 2) := by decide +kernel
theorem d_M_step_145 : decode c_M_step 145 = .ok (.bipush 15, 2) := by decide +kernel
theorem d_M_step_147 : decode c_M_step 147 = .ok (.aload_n 0, 1) := by decide +kernel
theorem d_M_step_148 : decode c_M_step 148 = .ok (.bipush 15, 2) := by decide +kernel
theorem d_M_step_150 : decode c_M_step 150 = .ok (.bipush 60, 2) := by decide +kernel
theorem d_M_step_152 : decode c_M_step 152 = .ok (.invokevirtual 49, 3) := by decide +kernel
theorem d_M_step_155 : decode c_M_step 155 = .ok (.imul, 1) := by decide +kernel
theorem d_M_step_156 : decode c_M_step 156 = .ok (.iconst 3, 1) := by decide +kernel
theorem d_M_step_157 : decode c_M_step 157 = .ok (.iadd, 1) := by decide +kernel
theorem d_M_step_158 : decode c_M_step 158 = .ok (.aload_n 0, 1) := by decide +kernel
theorem d_M_step_159 : decode c_M_step 159 = .ok (.bipush 15, 2) := by decide +kernel
theorem d_M_step_161 : decode c_M_step 161 = .ok (.bipush 61, 2) := by decide +kernel
theorem d_M_step_163 : decode c_M_step 163 = .ok (.invokevirtual 49, 3) := by decide +kernel
theorem d_M_step_166 : decode c_M_step 166 = .ok (.iadd, 1) := by decide +kernel
theorem d_M_step_167 : decode c_M_step 167 = .ok (.iload_n 2, 1) := by decide +kernel
theorem d_M_step_168 : decode c_M_step 168 = .ok (.invokevirtual 76, 3) := by decide +kernel
theorem d_M_step_171 : decode c_M_step 171 = .ok (.aload_n 0, 1) := by decide +kernel
theorem d_M_step_172 : decode c_M_step 172 = .ok (.bipush 16, 2) := by decide +kernel
theorem d_M_step_174 : decode c_M_step 174 = .ok (.bipush 60, 2) := by decide +kernel
theorem d_M_step_176 : decode c_M_step 176 = .ok (.iconst (-1), 1) := by decide +kernel
theorem d_M_step_177 : decode c_M_step 177 = .ok (.invokevirtual 76, 3) := by decide +kernel
theorem d_M_step_180 : decode c_M_step 180 = .ok (.aload_n 0, 1) := by decide +kernel
theorem d_M_step_181 : decode c_M_step 181 = .ok (.invokevirtual 114, 3) := by decide +kernel
theorem d_M_step_184 : decode c_M_step 184 = .ok (.ifCond .eq 7, 3) := by decide +kernel
theorem d_M_step_187 : decode c_M_step 187 = .ok (.iconst 4, 1) := by decide +kernel
theorem d_M_step_188 : decode c_M_step 188 = .ok (.goto 5, 3) := by decide +kernel
theorem d_M_step_191 : decode c_M_step 191 = .ok (.bipush (-7), 2) := by decide +kernel
theorem d_M_step_193 : decode c_M_step 193 = .ok (.ireturn, 1) := by decide +kernel
theorem d_M_source_0 : decode c_M_source 0 = .ok (.aload_n 0, 1) := by decide +kernel
theorem d_M_source_1 : decode c_M_source 1 = .ok (.bipush 15, 2) := by decide +kernel
theorem d_M_source_3 : decode c_M_source 3 = .ok (.bipush 15, 2) := by decide +kernel
theorem d_M_source_5 : decode c_M_source 5 = .ok (.aload_n 0, 1) := by decide +kernel
theorem d_M_source_6 : decode c_M_source 6 = .ok (.bipush 15, 2) := by decide +kernel
theorem d_M_source_8 : decode c_M_source 8 = .ok (.bipush 60, 2) := by decide +kernel
theorem d_M_source_10 : decode c_M_source 10 = .ok (.invokevirtual 49, 3) := by decide +kernel
theorem d_M_source_13 : decode c_M_source 13 = .ok (.imul, 1) := by decide +kernel
theorem d_M_source_14 : decode c_M_source 14 = .ok (.iconst 3, 1) := by decide +kernel
theorem d_M_source_15 : decode c_M_source 15 = .ok (.iadd, 1) := by decide +kernel
theorem d_M_source_16 : decode c_M_source 16 = .ok (.aload_n 0, 1) := by decide +kernel
theorem d_M_source_17 : decode c_M_source 17 = .ok (.bipush 15, 2) := by decide +kernel
theorem d_M_source_19 : decode c_M_source 19 = .ok (.bipush 61, 2) := by decide +kernel
theorem d_M_source_21 : decode c_M_source 21 = .ok (.invokevirtual 49, 3) := by decide +kernel
theorem d_M_source_24 : decode c_M_source 24 = .ok (.iadd, 1) := by decide +kernel
theorem d_M_source_25 : decode c_M_source 25 = .ok (.invokevirtual 49, 3) := by decide +kernel
theorem d_M_source_28 : decode c_M_source 28 = .ok (.ireturn, 1) := by decide +kernel
theorem d_M_target_0 : decode c_M_target 0 = .ok (.aload_n 0, 1) := by decide +kernel
theorem d_M_target_1 : decode c_M_target 1 = .ok (.bipush 15, 2) := by decide +kernel
theorem d_M_target_3 : decode c_M_target 3 = .ok (.bipush 62, 2) := by decide +kernel
theorem d_M_target_5 : decode c_M_target 5 = .ok (.invokevirtual 49, 3) := by decide +kernel
theorem d_M_target_8 : decode c_M_target 8 = .ok (.ireturn, 1) := by decide +kernel
theorem d_M_cellAt_0 : decode c_M_cellAt 0 = .ok (.bipush 64, 2) := by decide +kernel
theorem d_M_cellAt_2 : decode c_M_cellAt 2 = .ok (.iload_n 1, 1) := by decide +kernel
theorem d_M_cellAt_3 : decode c_M_cellAt 3 = .ok (.bipush 16, 2) := by decide +kernel
theorem d_M_cellAt_5 : decode c_M_cellAt 5 = .ok (.idiv, 1) := by decide +kernel
theorem d_M_cellAt_6 : decode c_M_cellAt 6 = .ok (.imul, 1) := by decide +kernel
theorem d_M_cellAt_7 : decode c_M_cellAt 7 = .ok (.iconst 4, 1) := by decide +kernel
theorem d_M_cellAt_8 : decode c_M_cellAt 8 = .ok (.iload_n 1, 1) := by decide +kernel
theorem d_M_cellAt_9 : decode c_M_cellAt 9 = .ok (.bipush 16, 2) := by decide +kernel
theorem d_M_cellAt_11 : decode c_M_cellAt 11 = .ok (.irem, 1) := by decide +kernel
theorem d_M_cellAt_12 : decode c_M_cellAt 12 = .ok (.imul, 1) := by decide +kernel
theorem d_M_cellAt_13 : decode c_M_cellAt 13 = .ok (.iadd, 1) := by decide +kernel
theorem d_M_cellAt_14 : decode c_M_cellAt 14 = .ok (.iload_n 2, 1) := by decide +kernel
theorem d_M_cellAt_15 : decode c_M_cellAt 15 = .ok (.iadd, 1) := by decide +kernel
theorem d_M_cellAt_16 : decode c_M_cellAt 16 = .ok (.ireturn, 1) := by decide +kernel
theorem d_M_cancel_0 : decode c_M_cancel 0 = .ok (.aload_n 0, 1) := by decide +kernel
theorem d_M_cancel_1 : decode c_M_cancel 1 = .ok (.getfield 45, 3) := by decide +kernel
theorem d_M_cancel_4 : decode c_M_cancel 4 = .ok (.ifCond .ne 6, 3) := by decide +kernel
theorem d_M_cancel_7 : decode c_M_cancel 7 = .ok (.bipush (-2), 2) := by decide +kernel
theorem d_M_cancel_9 : decode c_M_cancel 9 = .ok (.ireturn, 1) := by decide +kernel
theorem d_M_cancel_10 : decode c_M_cancel 10 = .ok (.aload_n 0, 1) := by decide +kernel
theorem d_M_cancel_11 : decode c_M_cancel 11 = .ok (.bipush 15, 2) := by decide +kernel
theorem d_M_cancel_13 : decode c_M_cancel 13 = .ok (.bipush 60, 2) := by decide +kernel
theorem d_M_cancel_15 : decode c_M_cancel 15 = .ok (.invokevirtual 49, 3) := by decide +kernel
theorem d_M_cancel_18 : decode c_M_cancel 18 = .ok (.ifCond .ge 6, 3) := by decide +kernel
theorem d_M_cancel_21 : decode c_M_cancel 21 = .ok (.bipush (-8), 2) := by decide +kernel
theorem d_M_cancel_23 : decode c_M_cancel 23 = .ok (.ireturn, 1) := by decide +kernel
theorem d_M_cancel_24 : decode c_M_cancel 24 = .ok (.aload_n 0, 1) := by decide +kernel
theorem d_M_cancel_25 : decode c_M_cancel 25 = .ok (.invokevirtual 108, 3) := by decide +kernel
theorem d_M_cancel_28 : decode c_M_cancel 28 = .ok (.ifCond .eq 6, 3) := by decide +kernel
theorem d_M_cancel_31 : decode c_M_cancel 31 = .ok (.bipush (-3), 2) := by decide +kernel
theorem d_M_cancel_33 : decode c_M_cancel 33 = .ok (.ireturn, 1) := by decide +kernel
theorem d_M_cancel_34 : decode c_M_cancel 34 = .ok (.aload_n 0, 1) := by decide +kernel
theorem d_M_cancel_35 : decode c_M_cancel 35 = .ok (.bipush 15, 2) := by decide +kernel
theorem d_M_cancel_37 : decode c_M_cancel 37 = .ok (.bipush 16, 2) := by decide +kernel
theorem d_M_cancel_39 : decode c_M_cancel 39 = .ok (.invokevirtual 90, 3) := by decide +kernel
theorem d_M_cancel_42 : decode c_M_cancel 42 = .ok (.aload_n 0, 1) := by decide +kernel
theorem d_M_cancel_43 : decode c_M_cancel 43 = .ok (.bipush 16, 2) := by decide +kernel
theorem d_M_cancel_45 : decode c_M_cancel 45 = .ok (.bipush 60, 2) := by decide +kernel
theorem d_M_cancel_47 : decode c_M_cancel 47 = .ok (.iconst (-1), 1) := by decide +kernel
theorem d_M_cancel_48 : decode c_M_cancel 48 = .ok (.invokevirtual 76, 3) := by decide +kernel
theorem d_M_cancel_51 : decode c_M_cancel 51 = .ok (.aload_n 0, 1) := by decide +kernel
theorem d_M_cancel_52 : decode c_M_cancel 52 = .ok (.invokevirtual 114, 3) := by decide +kernel
theorem d_M_cancel_55 : decode c_M_cancel 55 = .ok (.ifCond .eq 7, 3) := by decide +kernel
theorem d_M_cancel_58 : decode c_M_cancel 58 = .ok (.iconst 0, 1) := by decide +kernel
theorem d_M_cancel_59 : decode c_M_cancel 59 = .ok (.goto 5, 3) := by decide +kernel
theorem d_M_cancel_62 : decode c_M_cancel 62 = .ok (.bipush (-7), 2) := by decide +kernel
theorem d_M_cancel_64 : decode c_M_cancel 64 = .ok (.ireturn, 1) := by decide +kernel
theorem d_M_read_0 : decode c_M_read 0 = .ok (.aload_n 0, 1) := by decide +kernel
theorem d_M_read_1 : decode c_M_read 1 = .ok (.getfield 45, 3) := by decide +kernel
theorem d_M_read_4 : decode c_M_read 4 = .ok (.ifCond .ne 6, 3) := by decide +kernel
theorem d_M_read_7 : decode c_M_read 7 = .ok (.bipush (-2), 2) := by decide +kernel
theorem d_M_read_9 : decode c_M_read 9 = .ok (.ireturn, 1) := by decide +kernel
theorem d_M_read_10 : decode c_M_read 10 = .ok (.aload_n 0, 1) := by decide +kernel
theorem d_M_read_11 : decode c_M_read 11 = .ok (.iload_n 1, 1) := by decide +kernel
theorem d_M_read_12 : decode c_M_read 12 = .ok (.iload_n 2, 1) := by decide +kernel
theorem d_M_read_13 : decode c_M_read 13 = .ok (.invokevirtual 139, 3) := by decide +kernel
theorem d_M_read_16 : decode c_M_read 16 = .ok (.ifCond .ne 5, 3) := by decide +kernel
theorem d_M_read_19 : decode c_M_read 19 = .ok (.iconst (-1), 1) := by decide +kernel
theorem d_M_read_20 : decode c_M_read 20 = .ok (.ireturn, 1) := by decide +kernel
theorem d_M_read_21 : decode c_M_read 21 = .ok (.aload_n 0, 1) := by decide +kernel
theorem d_M_read_22 : decode c_M_read 22 = .ok (.bipush 15, 2) := by decide +kernel
theorem d_M_read_24 : decode c_M_read 24 = .ok (.bipush 15, 2) := by decide +kernel
theorem d_M_read_26 : decode c_M_read 26 = .ok (.iload_n 1, 1) := by decide +kernel
theorem d_M_read_27 : decode c_M_read 27 = .ok (.imul, 1) := by decide +kernel
theorem d_M_read_28 : decode c_M_read 28 = .ok (.iconst 3, 1) := by decide +kernel
theorem d_M_read_29 : decode c_M_read 29 = .ok (.iadd, 1) := by decide +kernel
theorem d_M_read_30 : decode c_M_read 30 = .ok (.aload_n 0, 1) := by decide +kernel
theorem d_M_read_31 : decode c_M_read 31 = .ok (.iload_n 1, 1) := by decide +kernel
theorem d_M_read_32 : decode c_M_read 32 = .ok (.iload_n 2, 1) := by decide +kernel
theorem d_M_read_33 : decode c_M_read 33 = .ok (.invokevirtual 142, 3) := by decide +kernel
theorem d_M_read_36 : decode c_M_read 36 = .ok (.iadd, 1) := by decide +kernel
theorem d_M_read_37 : decode c_M_read 37 = .ok (.invokevirtual 49, 3) := by decide +kernel
theorem d_M_read_40 : decode c_M_read 40 = .ok (.istore_n 3, 1) := by decide +kernel
theorem d_M_read_41 : decode c_M_read 41 = .ok (.aload_n 0, 1) := by decide +kernel
theorem d_M_read_42 : decode c_M_read 42 = .ok (.iload_n 1, 1) := by decide +kernel
theorem d_M_read_43 : decode c_M_read 43 = .ok (.iload_n 2, 1) := by decide +kernel
theorem d_M_read_44 : decode c_M_read 44 = .ok (.invokevirtual 145, 3) := by decide +kernel
theorem d_M_read_47 : decode c_M_read 47 = .ok (.istore 4, 2) := by decide +kernel
theorem d_M_read_49 : decode c_M_read 49 = .ok (.aload_n 0, 1) := by decide +kernel
theorem d_M_read_50 : decode c_M_read 50 = .ok (.getfield 7, 3) := by decide +kernel
theorem d_M_read_53 : decode c_M_read 53 = .ok (.iload_n 3, 1) := by decide +kernel
theorem d_M_read_54 : decode c_M_read 54 = .ok (.bipush 16, 2) := by decide +kernel
theorem d_M_read_56 : decode c_M_read 56 = .ok (.idiv, 1) := by decide +kernel
theorem d_M_read_57 : decode c_M_read 57 = .ok (.baload, 1) := by decide +kernel
theorem d_M_read_58 : decode c_M_read 58 = .ok (.ifCond .eq 18, 3) := by decide +kernel
theorem d_M_read_61 : decode c_M_read 61 = .ok (.aload_n 0, 1) := by decide +kernel
theorem d_M_read_62 : decode c_M_read 62 = .ok (.getfield 13, 3) := by decide +kernel
theorem d_M_read_65 : decode c_M_read 65 = .ok (.aload_n 0, 1) := by decide +kernel
theorem d_M_read_66 : decode c_M_read 66 = .ok (.iload_n 3, 1) := by decide +kernel
theorem d_M_read_67 : decode c_M_read 67 = .ok (.iload 4, 2) := by decide +kernel
theorem d_M_read_69 : decode c_M_read 69 = .ok (.invokevirtual 136, 3) := by decide +kernel
theorem d_M_read_72 : decode c_M_read 72 = .ok (.iaload, 1) := by decide +kernel
theorem d_M_read_73 : decode c_M_read 73 = .ok (.goto 5, 3) := by decide +kernel
theorem d_M_read_76 : decode c_M_read 76 = .ok (.bipush (-6), 2) := by decide +kernel
theorem d_M_read_78 : decode c_M_read 78 = .ok (.ireturn, 1) := by decide +kernel
theorem d_M_isBlock_0 : decode c_M_isBlock 0 = .ok (.aload_n 0, 1) := by decide +kernel
theorem d_M_isBlock_1 : decode c_M_isBlock 1 = .ok (.iload_n 1, 1) := by decide +kernel
theorem d_M_isBlock_2 : decode c_M_isBlock 2 = .ok (.invokevirtual 117, 3) := by decide +kernel
theorem d_M_isBlock_5 : decode c_M_isBlock 5 = .ok (.ifCond .eq 24, 3) := by decide +kernel
theorem d_M_isBlock_8 : decode c_M_isBlock 8 = .ok (.iload_n 2, 1) := by decide +kernel
theorem d_M_isBlock_9 : decode c_M_isBlock 9 = .ok (.ifCond .lt 20, 3) := by decide +kernel
theorem d_M_isBlock_12 : decode c_M_isBlock 12 = .ok (.iload_n 2, 1) := by decide +kernel
theorem d_M_isBlock_13 : decode c_M_isBlock 13 = .ok (.iconst 4, 1) := by decide +kernel
theorem d_M_isBlock_14 : decode c_M_isBlock 14 = .ok (.aload_n 0, 1) := by decide +kernel
theorem d_M_isBlock_15 : decode c_M_isBlock 15 = .ok (.bipush 15, 2) := by decide +kernel
theorem d_M_isBlock_17 : decode c_M_isBlock 17 = .ok (.iload_n 1, 1) := by decide +kernel
theorem d_M_isBlock_18 : decode c_M_isBlock 18 = .ok (.invokevirtual 59, 3) := by decide +kernel
theorem d_M_isBlock_21 : decode c_M_isBlock 21 = .ok (.imul, 1) := by decide +kernel
theorem d_M_isBlock_22 : decode c_M_isBlock 22 = .ok (.if_icmp .ge 7, 3) := by decide +kernel
theorem d_M_isBlock_25 : decode c_M_isBlock 25 = .ok (.iconst 1, 1) := by decide +kernel
theorem d_M_isBlock_26 : decode c_M_isBlock 26 = .ok (.goto 4, 3) := by decide +kernel
theorem d_M_isBlock_29 : decode c_M_isBlock 29 = .ok (.iconst 0, 1) := by decide +kernel
theorem d_M_isBlock_30 : decode c_M_isBlock 30 = .ok (.ireturn, 1) := by decide +kernel
theorem d_M_extentOf_0 : decode c_M_extentOf 0 = .ok (.aload_n 0, 1) := by decide +kernel
theorem d_M_extentOf_1 : decode c_M_extentOf 1 = .ok (.bipush 15, 2) := by decide +kernel
theorem d_M_extentOf_3 : decode c_M_extentOf 3 = .ok (.iload_n 1, 1) := by decide +kernel
theorem d_M_extentOf_4 : decode c_M_extentOf 4 = .ok (.invokevirtual 56, 3) := by decide +kernel
theorem d_M_extentOf_7 : decode c_M_extentOf 7 = .ok (.istore_n 3, 1) := by decide +kernel
theorem d_M_extentOf_8 : decode c_M_extentOf 8 = .ok (.aload_n 0, 1) := by decide +kernel
theorem d_M_extentOf_9 : decode c_M_extentOf 9 = .ok (.bipush 15, 2) := by decide +kernel
theorem d_M_extentOf_11 : decode c_M_extentOf 11 = .ok (.bipush 15, 2) := by decide +kernel
theorem d_M_extentOf_13 : decode c_M_extentOf 13 = .ok (.iload_n 1, 1) := by decide +kernel
theorem d_M_extentOf_14 : decode c_M_extentOf 14 = .ok (.imul, 1) := by decide +kernel
theorem d_M_extentOf_15 : decode c_M_extentOf 15 = .ok (.iconst 1, 1) := by decide +kernel
theorem d_M_extentOf_16 : decode c_M_extentOf 16 = .ok (.iadd, 1) := by decide +kernel
theorem d_M_extentOf_17 : decode c_M_extentOf 17 = .ok (.invokevirtual 49, 3) := by decide +kernel
theorem d_M_extentOf_20 : decode c_M_extentOf 20 = .ok (.istore 4, 2) := by decide +kernel
theorem d_M_extentOf_22 : decode c_M_extentOf 22 = .ok (.iload_n 2, 1) := by decide +kernel
theorem d_M_extentOf_23 : decode c_M_extentOf 23 = .ok (.iconst 4, 1) := by decide +kernel
theorem d_M_extentOf_24 : decode c_M_extentOf 24 = .ok (.iload_n 3, 1) := by decide +kernel
theorem d_M_extentOf_25 : decode c_M_extentOf 25 = .ok (.imul, 1) := by decide +kernel
theorem d_M_extentOf_26 : decode c_M_extentOf 26 = .ok (.irem, 1) := by decide +kernel
theorem d_M_extentOf_27 : decode c_M_extentOf 27 = .ok (.istore 5, 2) := by decide +kernel
theorem d_M_extentOf_29 : decode c_M_extentOf 29 = .ok (.iload_n 3, 1) := by decide +kernel
theorem d_M_extentOf_30 : decode c_M_extentOf 30 = .ok (.iload_n 2, 1) := by decide +kernel
theorem d_M_extentOf_31 : decode c_M_extentOf 31 = .ok (.iconst 4, 1) := by decide +kernel
theorem d_M_extentOf_32 : decode c_M_extentOf 32 = .ok (.iload_n 3, 1) := by decide +kernel
theorem d_M_extentOf_33 : decode c_M_extentOf 33 = .ok (.imul, 1) := by decide +kernel
theorem d_M_extentOf_34 : decode c_M_extentOf 34 = .ok (.idiv, 1) := by decide +kernel
theorem d_M_extentOf_35 : decode c_M_extentOf 35 = .ok (.imul, 1) := by decide +kernel
theorem d_M_extentOf_36 : decode c_M_extentOf 36 = .ok (.iload 5, 2) := by decide +kernel
theorem d_M_extentOf_38 : decode c_M_extentOf 38 = .ok (.iload 4, 2) := by decide +kernel
theorem d_M_extentOf_40 : decode c_M_extentOf 40 = .ok (.idiv, 1) := by decide +kernel
theorem d_M_extentOf_41 : decode c_M_extentOf 41 = .ok (.iload_n 3, 1) := by decide +kernel
theorem d_M_extentOf_42 : decode c_M_extentOf 42 = .ok (.irem, 1) := by decide +kernel
theorem d_M_extentOf_43 : decode c_M_extentOf 43 = .ok (.iadd, 1) := by decide +kernel
theorem d_M_extentOf_44 : decode c_M_extentOf 44 = .ok (.ireturn, 1) := by decide +kernel
theorem d_M_cellOf_0 : decode c_M_cellOf 0 = .ok (.aload_n 0, 1) := by decide +kernel
theorem d_M_cellOf_1 : decode c_M_cellOf 1 = .ok (.bipush 15, 2) := by decide +kernel
theorem d_M_cellOf_3 : decode c_M_cellOf 3 = .ok (.iload_n 1, 1) := by decide +kernel
theorem d_M_cellOf_4 : decode c_M_cellOf 4 = .ok (.invokevirtual 56, 3) := by decide +kernel
theorem d_M_cellOf_7 : decode c_M_cellOf 7 = .ok (.istore_n 3, 1) := by decide +kernel
theorem d_M_cellOf_8 : decode c_M_cellOf 8 = .ok (.aload_n 0, 1) := by decide +kernel
theorem d_M_cellOf_9 : decode c_M_cellOf 9 = .ok (.bipush 15, 2) := by decide +kernel
theorem d_M_cellOf_11 : decode c_M_cellOf 11 = .ok (.bipush 15, 2) := by decide +kernel
theorem d_M_cellOf_13 : decode c_M_cellOf 13 = .ok (.iload_n 1, 1) := by decide +kernel
theorem d_M_cellOf_14 : decode c_M_cellOf 14 = .ok (.imul, 1) := by decide +kernel
theorem d_M_cellOf_15 : decode c_M_cellOf 15 = .ok (.iconst 1, 1) := by decide +kernel
theorem d_M_cellOf_16 : decode c_M_cellOf 16 = .ok (.iadd, 1) := by decide +kernel
theorem d_M_cellOf_17 : decode c_M_cellOf 17 = .ok (.invokevirtual 49, 3) := by decide +kernel
theorem d_M_cellOf_20 : decode c_M_cellOf 20 = .ok (.istore 4, 2) := by decide +kernel
theorem d_M_cellOf_22 : decode c_M_cellOf 22 = .ok (.iload_n 2, 1) := by decide +kernel
theorem d_M_cellOf_23 : decode c_M_cellOf 23 = .ok (.iconst 4, 1) := by decide +kernel
theorem d_M_cellOf_24 : decode c_M_cellOf 24 = .ok (.iload_n 3, 1) := by decide +kernel
theorem d_M_cellOf_25 : decode c_M_cellOf 25 = .ok (.imul, 1) := by decide +kernel
theorem d_M_cellOf_26 : decode c_M_cellOf 26 = .ok (.irem, 1) := by decide +kernel
theorem d_M_cellOf_27 : decode c_M_cellOf 27 = .ok (.istore 5, 2) := by decide +kernel
theorem d_M_cellOf_29 : decode c_M_cellOf 29 = .ok (.iload 5, 2) := by decide +kernel
theorem d_M_cellOf_31 : decode c_M_cellOf 31 = .ok (.iload 4, 2) := by decide +kernel
theorem d_M_cellOf_33 : decode c_M_cellOf 33 = .ok (.idiv, 1) := by decide +kernel
theorem d_M_cellOf_34 : decode c_M_cellOf 34 = .ok (.iload_n 3, 1) := by decide +kernel
theorem d_M_cellOf_35 : decode c_M_cellOf 35 = .ok (.idiv, 1) := by decide +kernel
theorem d_M_cellOf_36 : decode c_M_cellOf 36 = .ok (.iload 4, 2) := by decide +kernel
theorem d_M_cellOf_38 : decode c_M_cellOf 38 = .ok (.imul, 1) := by decide +kernel
theorem d_M_cellOf_39 : decode c_M_cellOf 39 = .ok (.iload 5, 2) := by decide +kernel
theorem d_M_cellOf_41 : decode c_M_cellOf 41 = .ok (.iload 4, 2) := by decide +kernel
theorem d_M_cellOf_43 : decode c_M_cellOf 43 = .ok (.irem, 1) := by decide +kernel
theorem d_M_cellOf_44 : decode c_M_cellOf 44 = .ok (.iadd, 1) := by decide +kernel
theorem d_M_cellOf_45 : decode c_M_cellOf 45 = .ok (.ireturn, 1) := by decide +kernel
theorem d_M_write_0 : decode c_M_write 0 = .ok (.aload_n 0, 1) := by decide +kernel
theorem d_M_write_1 : decode c_M_write 1 = .ok (.getfield 45, 3) := by decide +kernel
theorem d_M_write_4 : decode c_M_write 4 = .ok (.ifCond .ne 6, 3) := by decide +kernel
theorem d_M_write_7 : decode c_M_write 7 = .ok (.bipush (-2), 2) := by decide +kernel
theorem d_M_write_9 : decode c_M_write 9 = .ok (.ireturn, 1) := by decide +kernel
theorem d_M_write_10 : decode c_M_write 10 = .ok (.aload_n 0, 1) := by decide +kernel
theorem d_M_write_11 : decode c_M_write 11 = .ok (.iload_n 1, 1) := by decide +kernel
theorem d_M_write_12 : decode c_M_write 12 = .ok (.iload_n 2, 1) := by decide +kernel
theorem d_M_write_13 : decode c_M_write 13 = .ok (.invokevirtual 139, 3) := by decide +kernel
theorem d_M_write_16 : decode c_M_write 16 = .ok (.ifCond .eq 7, 3) := by decide +kernel
theorem d_M_write_19 : decode c_M_write 19 = .ok (.iload_n 3, 1) := by decide +kernel
theorem d_M_write_20 : decode c_M_write 20 = .ok (.ifCond .ge 5, 3) := by decide +kernel
theorem d_M_write_23 : decode c_M_write 23 = .ok (.iconst (-1), 1) := by decide +kernel
theorem d_M_write_24 : decode c_M_write 24 = .ok (.ireturn, 1) := by decide +kernel
theorem d_M_write_25 : decode c_M_write 25 = .ok (.aload_n 0, 1) := by decide +kernel
theorem d_M_write_26 : decode c_M_write 26 = .ok (.iload_n 1, 1) := by decide +kernel
theorem d_M_write_27 : decode c_M_write 27 = .ok (.iload_n 2, 1) := by decide +kernel
theorem d_M_write_28 : decode c_M_write 28 = .ok (.invokevirtual 142, 3) := by decide +kernel
theorem d_M_write_31 : decode c_M_write 31 = .ok (.istore 4, 2) := by decide +kernel
theorem d_M_write_33 : decode c_M_write 33 = .ok (.aload_n 0, 1) := by decide +kernel
theorem d_M_write_34 : decode c_M_write 34 = .ok (.iload_n 1, 1) := by decide +kernel
theorem d_M_write_35 : decode c_M_write 35 = .ok (.iload_n 2, 1) := by decide +kernel
theorem d_M_write_36 : decode c_M_write 36 = .ok (.invokevirtual 145, 3) := by decide +kernel
theorem d_M_write_39 : decode c_M_write 39 = .ok (.istore 5, 2) := by decide +kernel
theorem d_M_write_41 : decode c_M_write 41 = .ok (.aload_n 0, 1) := by decide +kernel
theorem d_M_write_42 : decode c_M_write 42 = .ok (.bipush 15, 2) := by decide +kernel
theorem d_M_write_44 : decode c_M_write 44 = .ok (.bipush 15, 2) := by decide +kernel
theorem d_M_write_46 : decode c_M_write 46 = .ok (.iload_n 1, 1) := by decide +kernel
theorem d_M_write_47 : decode c_M_write 47 = .ok (.imul, 1) := by decide +kernel
theorem d_M_write_48 : decode c_M_write 48 = .ok (.iconst 3, 1) := by decide +kernel
theorem d_M_write_49 : decode c_M_write 49 = .ok (.iadd, 1) := by decide +kernel
theorem d_M_write_50 : decode c_M_write 50 = .ok (.iload 4, 2) := by decide +kernel
theorem d_M_write_52 : decode c_M_write 52 = .ok (.iadd, 1) := by decide +kernel
theorem d_M_write_53 : decode c_M_write 53 = .ok (.invokevirtual 49, 3) := by decide +kernel
theorem d_M_write_56 : decode c_M_write 56 = .ok (.istore 6, 2) := by decide +kernel
theorem d_M_write_58 : decode c_M_write 58 = .ok (.aload_n 0, 1) := by decide +kernel
theorem d_M_write_59 : decode c_M_write 59 = .ok (.iload_n 1, 1) := by decide +kernel
theorem d_M_write_60 : decode c_M_write 60 = .ok (.invokevirtual 120, 3) := by decide +kernel
theorem d_M_write_63 : decode c_M_write 63 = .ok (.ifCond .eq 29, 3) := by decide +kernel
theorem d_M_write_66 : decode c_M_write 66 = .ok (.aload_n 0, 1) := by decide +kernel
theorem d_M_write_67 : decode c_M_write 67 = .ok (.bipush 15, 2) := by decide +kernel
theorem d_M_write_69 : decode c_M_write 69 = .ok (.bipush 61, 2) := by decide +kernel
theorem d_M_write_71 : decode c_M_write 71 = .ok (.invokevirtual 49, 3) := by decide +kernel
theorem d_M_write_74 : decode c_M_write 74 = .ok (.iload 4, 2) := by decide +kernel
theorem d_M_write_76 : decode c_M_write 76 = .ok (.if_icmp .ne 16, 3) := by decide +kernel
theorem d_M_write_79 : decode c_M_write 79 = .ok (.iload 5, 2) := by decide +kernel
theorem d_M_write_81 : decode c_M_write 81 = .ok (.aload_n 0, 1) := by decide +kernel
theorem d_M_write_82 : decode c_M_write 82 = .ok (.getfield 126, 3) := by decide +kernel
theorem d_M_write_85 : decode c_M_write 85 = .ok (.if_icmp .ge 7, 3) := by decide +kernel
theorem d_M_write_88 : decode c_M_write 88 = .ok (.iconst 1, 1) := by decide +kernel
theorem d_M_write_89 : decode c_M_write 89 = .ok (.goto 4, 3) := by decide +kernel
theorem d_M_write_92 : decode c_M_write 92 = .ok (.iconst 0, 1) := by decide +kernel
theorem d_M_write_93 : decode c_M_write 93 = .ok (.istore 7, 2) := by decide +kernel
theorem d_M_write_95 : decode c_M_write 95 = .ok (.aload_n 0, 1) := by decide +kernel
theorem d_M_write_96 : decode c_M_write 96 = .ok (.getfield 7, 3) := by decide +kernel
theorem d_M_write_99 : decode c_M_write 99 = .ok (.iload 6, 2) := by decide +kernel
theorem d_M_write_101 : decode c_M_write 101 = .ok (.bipush 16, 2) := by decide +kernel
theorem d_M_write_103 : decode c_M_write 103 = .ok (.idiv, 1) := by decide +kernel
theorem d_M_write_104 : decode c_M_write 104 = .ok (.baload, 1) := by decide +kernel
theorem d_M_write_105 : decode c_M_write 105 = .ok (.ifCond .eq 23, 3) := by decide +kernel
theorem d_M_write_108 : decode c_M_write 108 = .ok (.iload 7, 2) := by decide +kernel
theorem d_M_write_110 : decode c_M_write 110 = .ok (.ifCond .eq 21, 3) := by decide +kernel
theorem d_M_write_113 : decode c_M_write 113 = .ok (.aload_n 0, 1) := by decide +kernel
theorem d_M_write_114 : decode c_M_write 114 = .ok (.getfield 7, 3) := by decide +kernel
theorem d_M_write_117 : decode c_M_write 117 = .ok (.aload_n 0, 1) := by decide +kernel
theorem d_M_write_118 : decode c_M_write 118 = .ok (.invokevirtual 133, 3) := by decide +kernel
theorem d_M_write_121 : decode c_M_write 121 = .ok (.bipush 16, 2) := by decide +kernel
theorem d_M_write_123 : decode c_M_write 123 = .ok (.idiv, 1) := by decide +kernel
theorem d_M_write_124 : decode c_M_write 124 = .ok (.baload, 1) := by decide +kernel
theorem d_M_write_125 : decode c_M_write 125 = .ok (.ifCond .ne 6, 3) := by decide +kernel
theorem d_M_write_128 : decode c_M_write 128 = .ok (.bipush (-6), 2) := by decide +kernel
theorem d_M_write_130 : decode c_M_write 130 = .ok (.ireturn, 1) := by decide +kernel
theorem d_M_write_131 : decode c_M_write 131 = .ok (.aload_n 0, 1) := by decide +kernel
theorem d_M_write_132 : decode c_M_write 132 = .ok (.invokevirtual 86, 3) := by decide +kernel
theorem d_M_write_135 : decode c_M_write 135 = .ok (.ifCond .eq 6, 3) := by decide +kernel
theorem d_M_write_138 : decode c_M_write 138 = .ok (.bipush (-7), 2) := by decide +kernel
theorem d_M_write_140 : decode c_M_write 140 = .ok (.ireturn, 1) := by decide +kernel
theorem d_M_write_141 : decode c_M_write 141 = .ok (.aload_n 0, 1) := by decide +kernel
theorem d_M_write_142 : decode c_M_write 142 = .ok (.getfield 13, 3) := by decide +kernel
theorem d_M_write_145 : decode c_M_write 145 = .ok (.aload_n 0, 1) := by decide +kernel
theorem d_M_write_146 : decode c_M_write 146 = .ok (.iload 6, 2) := by decide +kernel
theorem d_M_write_148 : decode c_M_write 148 = .ok (.iload 5, 2) := by decide +kernel
theorem d_M_write_150 : decode c_M_write 150 = .ok (.invokevirtual 136, 3) := by decide +kernel
theorem d_M_write_153 : decode c_M_write 153 = .ok (.iload_n 3, 1) := by decide +kernel
theorem d_M_write_154 : decode c_M_write 154 = .ok (.iastore, 1) := by decide +kernel
theorem d_M_write_155 : decode c_M_write 155 = .ok (.iload 7, 2) := by decide +kernel
theorem d_M_write_157 : decode c_M_write 157 = .ok (.ifCond .ne 5, 3) := by decide +kernel
theorem d_M_write_160 : decode c_M_write 160 = .ok (.iconst 1, 1) := by decide +kernel
theorem d_M_write_161 : decode c_M_write 161 = .ok (.ireturn, 1) := by decide +kernel
theorem d_M_write_162 : decode c_M_write 162 = .ok (.aload_n 0, 1) := by decide +kernel
theorem d_M_write_163 : decode c_M_write 163 = .ok (.invokevirtual 86, 3) := by decide +kernel
theorem d_M_write_166 : decode c_M_write 166 = .ok (.ifCond .eq 6, 3) := by decide +kernel
theorem d_M_write_169 : decode c_M_write 169 = .ok (.bipush (-7), 2) := by decide +kernel
theorem d_M_write_171 : decode c_M_write 171 = .ok (.ireturn, 1) := by decide +kernel
theorem d_M_write_172 : decode c_M_write 172 = .ok (.aload_n 0, 1) := by decide +kernel
theorem d_M_write_173 : decode c_M_write 173 = .ok (.getfield 13, 3) := by decide +kernel
theorem d_M_write_176 : decode c_M_write 176 = .ok (.aload_n 0, 1) := by decide +kernel
theorem d_M_write_177 : decode c_M_write 177 = .ok (.aload_n 0, 1) := by decide +kernel
theorem d_M_write_178 : decode c_M_write 178 = .ok (.invokevirtual 133, 3) := by decide +kernel
theorem d_M_write_181 : decode c_M_write 181 = .ok (.iload 5, 2) := by decide +kernel
theorem d_M_write_183 : decode c_M_write 183 = .ok (.invokevirtual 136, 3) := by decide +kernel
theorem d_M_write_186 : decode c_M_write 186 = .ok (.iload_n 3, 1) := by decide +kernel
theorem d_M_write_187 : decode c_M_write 187 = .ok (.iastore, 1) := by decide +kernel
theorem d_M_write_188 : decode c_M_write 188 = .ok (.iconst 2, 1) := by decide +kernel
theorem d_M_write_189 : decode c_M_write 189 = .ok (.ireturn, 1) := by decide +kernel
theorem d_M_pull_0 : decode c_M_pull 0 = .ok (.aload_n 0, 1) := by decide +kernel
theorem d_M_pull_1 : decode c_M_pull 1 = .ok (.iload_n 1, 1) := by decide +kernel
theorem d_M_pull_2 : decode c_M_pull 2 = .ok (.invokevirtual 148, 3) := by decide +kernel
theorem d_M_pull_5 : decode c_M_pull 5 = .ok (.ifCond .eq 12, 3) := by decide +kernel
theorem d_M_pull_8 : decode c_M_pull 8 = .ok (.aload_n 0, 1) := by decide +kernel
theorem d_M_pull_9 : decode c_M_pull 9 = .ok (.getfield 7, 3) := by decide +kernel
theorem d_M_pull_12 : decode c_M_pull 12 = .ok (.iload_n 1, 1) := by decide +kernel
theorem d_M_pull_13 : decode c_M_pull 13 = .ok (.baload, 1) := by decide +kernel
theorem d_M_pull_14 : decode c_M_pull 14 = .ok (.ifCond .ne 5, 3) := by decide +kernel
theorem d_M_pull_17 : decode c_M_pull 17 = .ok (.iconst 0, 1) := by decide +kernel
theorem d_M_pull_18 : decode c_M_pull 18 = .ok (.ireturn, 1) := by decide +kernel
theorem d_M_pull_19 : decode c_M_pull 19 = .ok (.aload_n 0, 1) := by decide +kernel
theorem d_M_pull_20 : decode c_M_pull 20 = .ok (.getfield 7, 3) := by decide +kernel
theorem d_M_pull_23 : decode c_M_pull 23 = .ok (.iload_n 1, 1) := by decide +kernel
theorem d_M_pull_24 : decode c_M_pull 24 = .ok (.iconst 0, 1) := by decide +kernel
theorem d_M_pull_25 : decode c_M_pull 25 = .ok (.bastore, 1) := by decide +kernel
theorem d_M_pull_26 : decode c_M_pull 26 = .ok (.iconst 1, 1) := by decide +kernel
theorem d_M_pull_27 : decode c_M_pull 27 = .ok (.ireturn, 1) := by decide +kernel
theorem d_M_isDisk_0 : decode c_M_isDisk 0 = .ok (.iload_n 1, 1) := by decide +kernel
theorem d_M_isDisk_1 : decode c_M_isDisk 1 = .ok (.ifCond .lt 15, 3) := by decide +kernel
theorem d_M_isDisk_4 : decode c_M_isDisk 4 = .ok (.iload_n 1, 1) := by decide +kernel
theorem d_M_isDisk_5 : decode c_M_isDisk 5 = .ok (.aload_n 0, 1) := by decide +kernel
theorem d_M_isDisk_6 : decode c_M_isDisk 6 = .ok (.getfield 29, 3) := by decide +kernel
theorem d_M_isDisk_9 : decode c_M_isDisk 9 = .ok (.if_icmp .ge 7, 3) := by decide +kernel
theorem d_M_isDisk_12 : decode c_M_isDisk 12 = .ok (.iconst 1, 1) := by decide +kernel
theorem d_M_isDisk_13 : decode c_M_isDisk 13 = .ok (.goto 4, 3) := by decide +kernel
theorem d_M_isDisk_16 : decode c_M_isDisk 16 = .ok (.iconst 0, 1) := by decide +kernel
theorem d_M_isDisk_17 : decode c_M_isDisk 17 = .ok (.ireturn, 1) := by decide +kernel
theorem d_M_plug_0 : decode c_M_plug 0 = .ok (.aload_n 0, 1) := by decide +kernel
theorem d_M_plug_1 : decode c_M_plug 1 = .ok (.iload_n 1, 1) := by decide +kernel
theorem d_M_plug_2 : decode c_M_plug 2 = .ok (.invokevirtual 148, 3) := by decide +kernel
theorem d_M_plug_5 : decode c_M_plug 5 = .ok (.ifCond .eq 12, 3) := by decide +kernel
theorem d_M_plug_8 : decode c_M_plug 8 = .ok (.aload_n 0, 1) := by decide +kernel
theorem d_M_plug_9 : decode c_M_plug 9 = .ok (.getfield 7, 3) := by decide +kernel
theorem d_M_plug_12 : decode c_M_plug 12 = .ok (.iload_n 1, 1) := by decide +kernel
theorem d_M_plug_13 : decode c_M_plug 13 = .ok (.baload, 1) := by decide +kernel
theorem d_M_plug_14 : decode c_M_plug 14 = .ok (.ifCond .eq 5, 3) := by decide +kernel
theorem d_M_plug_17 : decode c_M_plug 17 = .ok (.iconst 0, 1) := by decide +kernel
theorem d_M_plug_18 : decode c_M_plug 18 = .ok (.ireturn, 1) := by decide +kernel
theorem d_M_plug_19 : decode c_M_plug 19 = .ok (.aload_n 0, 1) := by decide +kernel
theorem d_M_plug_20 : decode c_M_plug 20 = .ok (.getfield 7, 3) := by decide +kernel
theorem d_M_plug_23 : decode c_M_plug 23 = .ok (.iload_n 1, 1) := by decide +kernel
theorem d_M_plug_24 : decode c_M_plug 24 = .ok (.iconst 1, 1) := by decide +kernel
theorem d_M_plug_25 : decode c_M_plug 25 = .ok (.bastore, 1) := by decide +kernel
theorem d_M_plug_26 : decode c_M_plug 26 = .ok (.iconst 1, 1) := by decide +kernel
theorem d_M_plug_27 : decode c_M_plug 27 = .ok (.ireturn, 1) := by decide +kernel
theorem d_M_arm_0 : decode c_M_arm 0 = .ok (.iload_n 1, 1) := by decide +kernel
theorem d_M_arm_1 : decode c_M_arm 1 = .ok (.ifCond .lt 9, 3) := by decide +kernel
theorem d_M_arm_4 : decode c_M_arm 4 = .ok (.iload_n 1, 1) := by decide +kernel
theorem d_M_arm_5 : decode c_M_arm 5 = .ok (.bipush 100, 2) := by decide +kernel
theorem d_M_arm_7 : decode c_M_arm 7 = .ok (.if_icmp .le 5, 3) := by decide +kernel
theorem d_M_arm_10 : decode c_M_arm 10 = .ok (.iconst 0, 1) := by decide +kernel
theorem d_M_arm_11 : decode c_M_arm 11 = .ok (.ireturn, 1) := by decide +kernel
theorem d_M_arm_12 : decode c_M_arm 12 = .ok (.aload_n 0, 1) := by decide +kernel
theorem d_M_arm_13 : decode c_M_arm 13 = .ok (.iconst 1, 1) := by decide +kernel
theorem d_M_arm_14 : decode c_M_arm 14 = .ok (.putfield 80, 3) := by decide +kernel
theorem d_M_arm_17 : decode c_M_arm 17 = .ok (.aload_n 0, 1) := by decide +kernel
theorem d_M_arm_18 : decode c_M_arm 18 = .ok (.iload_n 1, 1) := by decide +kernel
theorem d_M_arm_19 : decode c_M_arm 19 = .ok (.putfield 83, 3) := by decide +kernel
theorem d_M_arm_22 : decode c_M_arm 22 = .ok (.iconst 1, 1) := by decide +kernel
theorem d_M_arm_23 : decode c_M_arm 23 = .ok (.ireturn, 1) := by decide +kernel
theorem d_M_crash_0 : decode c_M_crash 0 = .ok (.aload_n 0, 1) := by decide +kernel
theorem d_M_crash_1 : decode c_M_crash 1 = .ok (.getfield 45, 3) := by decide +kernel
theorem d_M_crash_4 : decode c_M_crash 4 = .ok (.ifCond .ne 5, 3) := by decide +kernel
theorem d_M_crash_7 : decode c_M_crash 7 = .ok (.iconst 0, 1) := by decide +kernel
theorem d_M_crash_8 : decode c_M_crash 8 = .ok (.ireturn, 1) := by decide +kernel
theorem d_M_crash_9 : decode c_M_crash 9 = .ok (.aload_n 0, 1) := by decide +kernel
theorem d_M_crash_10 : decode c_M_crash 10 = .ok (.iconst 0, 1) := by decide +kernel
theorem d_M_crash_11 : decode c_M_crash 11 = .ok (.putfield 45, 3) := by decide +kernel
theorem d_M_crash_14 : decode c_M_crash 14 = .ok (.aload_n 0, 1) := by decide +kernel
theorem d_M_crash_15 : decode c_M_crash 15 = .ok (.iconst 0, 1) := by decide +kernel
theorem d_M_crash_16 : decode c_M_crash 16 = .ok (.putfield 80, 3) := by decide +kernel
theorem d_M_crash_19 : decode c_M_crash 19 = .ok (.iconst 1, 1) := by decide +kernel
theorem d_M_crash_20 : decode c_M_crash 20 = .ok (.ireturn, 1) := by decide +kernel
theorem d_M_activate_0 : decode c_M_activate 0 = .ok (.aload_n 0, 1) := by decide +kernel
theorem d_M_activate_1 : decode c_M_activate 1 = .ok (.getfield 45, 3) := by decide +kernel
theorem d_M_activate_4 : decode c_M_activate 4 = .ok (.ifCond .eq 6, 3) := by decide +kernel
theorem d_M_activate_7 : decode c_M_activate 7 = .ok (.bipush (-9), 2) := by decide +kernel
theorem d_M_activate_9 : decode c_M_activate 9 = .ok (.ireturn, 1) := by decide +kernel
theorem d_M_activate_10 : decode c_M_activate 10 = .ok (.aload_n 0, 1) := by decide +kernel
theorem d_M_activate_11 : decode c_M_activate 11 = .ok (.invokevirtual 155, 3) := by decide +kernel
theorem d_M_activate_14 : decode c_M_activate 14 = .ok (.istore_n 1, 1) := by decide +kernel
theorem d_M_activate_15 : decode c_M_activate 15 = .ok (.iload_n 1, 1) := by decide +kernel
theorem d_M_activate_16 : decode c_M_activate 16 = .ok (.ifCond .ge 6, 3) := by decide +kernel
theorem d_M_activate_19 : decode c_M_activate 19 = .ok (.bipush (-3), 2) := by decide +kernel
theorem d_M_activate_21 : decode c_M_activate 21 = .ok (.ireturn, 1) := by decide +kernel
theorem d_M_activate_22 : decode c_M_activate 22 = .ok (.aload_n 0, 1) := by decide +kernel
theorem d_M_activate_23 : decode c_M_activate 23 = .ok (.getfield 20, 3) := by decide +kernel
theorem d_M_activate_26 : decode c_M_activate 26 = .ok (.iload_n 1, 1) := by decide +kernel
theorem d_M_activate_27 : decode c_M_activate 27 = .ok (.iaload, 1) := by decide +kernel
theorem d_M_activate_28 : decode c_M_activate 28 = .ok (.istore_n 2, 1) := by decide +kernel
theorem d_M_activate_29 : decode c_M_activate 29 = .ok (.aload_n 0, 1) := by decide +kernel
theorem d_M_activate_30 : decode c_M_activate 30 = .ok (.getfield 23, 3) := by decide +kernel
theorem d_M_activate_33 : decode c_M_activate 33 = .ok (.iload_n 1, 1) := by decide +kernel
theorem d_M_activate_34 : decode c_M_activate 34 = .ok (.iaload, 1) := by decide +kernel
theorem d_M_activate_35 : decode c_M_activate 35 = .ok (.istore_n 3, 1) := by decide +kernel
theorem d_M_activate_36 : decode c_M_activate 36 = .ok (.aload_n 0, 1) := by decide +kernel
theorem d_M_activate_37 : decode c_M_activate 37 = .ok (.iload_n 1, 1) := by decide +kernel
theorem d_M_activate_38 : decode c_M_activate 38 = .ok (.bipush 16, 2) := by decide +kernel
theorem d_M_activate_40 : decode c_M_activate 40 = .ok (.invokevirtual 90, 3) := by decide +kernel
theorem d_M_activate_43 : decode c_M_activate 43 = .ok (.iconst 0, 1) := by decide +kernel
theorem d_M_activate_44 : decode c_M_activate 44 = .ok (.istore 4, 2) := by decide +kernel
theorem d_M_activate_46 : decode c_M_activate 46 = .ok (.iload 4, 2) := by decide +kernel
theorem d_M_activate_48 : decode c_M_activate 48 = .ok (.aload_n 0, 1) := by decide +kernel
theorem d_M_activate_49 : decode c_M_activate 49 = .ok (.getfield 29, 3) := by decide +kernel
theorem d_M_activate_52 : decode c_M_activate 52 = .ok (.if_icmp .ge 33, 3) := by decide +kernel
theorem d_M_activate_55 : decode c_M_activate 55 = .ok (.aload_n 0, 1) := by decide +kernel
theorem d_M_activate_56 : decode c_M_activate 56 = .ok (.getfield 7, 3) := by decide +kernel
theorem d_M_activate_59 : decode c_M_activate 59 = .ok (.iload 4, 2) := by decide +kernel
theorem d_M_activate_61 : decode c_M_activate 61 = .ok (.baload, 1) := by decide +kernel
theorem d_M_activate_62 : decode c_M_activate 62 = .ok (.ifCond .eq 17, 3) := by decide +kernel
theorem d_M_activate_65 : decode c_M_activate 65 = .ok (.aload_n 0, 1) := by decide +kernel
theorem d_M_activate_66 : decode c_M_activate 66 = .ok (.iload 4, 2) := by decide +kernel
theorem d_M_activate_68 : decode c_M_activate 68 = .ok (.iload_n 2, 1) := by decide +kernel
theorem d_M_activate_69 : decode c_M_activate 69 = .ok (.iload_n 3, 1) := by decide +kernel
theorem d_M_activate_70 : decode c_M_activate 70 = .ok (.invokevirtual 158, 3) := by decide +kernel
theorem d_M_activate_73 : decode c_M_activate 73 = .ok (.ifCond .ne 6, 3) := by decide +kernel
theorem d_M_activate_76 : decode c_M_activate 76 = .ok (.bipush (-7), 2) := by decide +kernel
theorem d_M_activate_78 : decode c_M_activate 78 = .ok (.ireturn, 1) := by decide +kernel
theorem d_M_activate_79 : decode c_M_activate 79 = .ok (.iinc 4 1, 3) := by decide +kernel
theorem d_M_activate_82 : decode c_M_activate 82 = .ok (.goto (-36), 3) := by decide +kernel
theorem d_M_activate_85 : decode c_M_activate 85 = .ok (.aload_n 0, 1) := by decide +kernel
theorem d_M_activate_86 : decode c_M_activate 86 = .ok (.bipush 16, 2) := by decide +kernel
theorem d_M_activate_88 : decode c_M_activate 88 = .ok (.bipush 15, 2) := by decide +kernel
theorem d_M_activate_90 : decode c_M_activate 90 = .ok (.invokevirtual 90, 3) := by decide +kernel
theorem d_M_activate_93 : decode c_M_activate 93 = .ok (.aload_n 0, 1) := by decide +kernel
theorem d_M_activate_94 : decode c_M_activate 94 = .ok (.iload_n 2, 1) := by decide +kernel
theorem d_M_activate_95 : decode c_M_activate 95 = .ok (.putfield 36, 3) := by decide +kernel
theorem d_M_activate_98 : decode c_M_activate 98 = .ok (.aload_n 0, 1) := by decide +kernel
theorem d_M_activate_99 : decode c_M_activate 99 = .ok (.iload_n 3, 1) := by decide +kernel
theorem d_M_activate_100 : decode c_M_activate 100 = .ok (.putfield 39, 3) := by decide +kernel
theorem d_M_activate_103 : decode c_M_activate 103 = .ok (.aload_n 0, 1) := by decide +kernel
theorem d_M_activate_104 : decode c_M_activate 104 = .ok (.iconst 0, 1) := by decide +kernel
theorem d_M_activate_105 : decode c_M_activate 105 = .ok (.putfield 126, 3) := by decide +kernel
theorem d_M_activate_108 : decode c_M_activate 108 = .ok (.aload_n 0, 1) := by decide +kernel
theorem d_M_activate_109 : decode c_M_activate 109 = .ok (.iconst 1, 1) := by decide +kernel
theorem d_M_activate_110 : decode c_M_activate 110 = .ok (.putfield 45, 3) := by decide +kernel
theorem d_M_activate_113 : decode c_M_activate 113 = .ok (.iload_n 2, 1) := by decide +kernel
theorem d_M_activate_114 : decode c_M_activate 114 = .ok (.ireturn, 1) := by decide +kernel
theorem d_M_choose_0 : decode c_M_choose 0 = .ok (.iconst (-1), 1) := by decide +kernel
theorem d_M_choose_1 : decode c_M_choose 1 = .ok (.istore_n 1, 1) := by decide +kernel
theorem d_M_choose_2 : decode c_M_choose 2 = .ok (.iconst 0, 1) := by decide +kernel
theorem d_M_choose_3 : decode c_M_choose 3 = .ok (.istore_n 2, 1) := by decide +kernel
theorem d_M_choose_4 : decode c_M_choose 4 = .ok (.iload_n 2, 1) := by decide +kernel
theorem d_M_choose_5 : decode c_M_choose 5 = .ok (.iconst 3, 1) := by decide +kernel
theorem d_M_choose_6 : decode c_M_choose 6 = .ok (.aload_n 0, 1) := by decide +kernel
theorem d_M_choose_7 : decode c_M_choose 7 = .ok (.getfield 29, 3) := by decide +kernel
theorem d_M_choose_10 : decode c_M_choose 10 = .ok (.imul, 1) := by decide +kernel
theorem d_M_choose_11 : decode c_M_choose 11 = .ok (.if_icmp .ge 129, 3) := by decide +kernel
theorem d_M_choose_14 : decode c_M_choose 14 = .ok (.iconst 0, 1) := by decide +kernel
theorem d_M_choose_15 : decode c_M_choose 15 = .ok (.istore_n 3, 1) := by decide +kernel
theorem d_M_choose_16 : decode c_M_choose 16 = .ok (.iconst 0, 1) := by decide +kernel
theorem d_M_choose_17 : decode c_M_choose 17 = .ok (.istore 4, 2) := by decide +kernel
theorem d_M_choose_19 : decode c_M_choose 19 = .ok (.iload 4, 2) := by decide +kernel
theorem d_M_choose_21 : decode c_M_choose 21 = .ok (.aload_n 0, 1) := by decide +kernel
theorem d_M_choose_22 : decode c_M_choose 22 = .ok (.getfield 29, 3) := by decide +kernel
theorem d_M_choose_25 : decode c_M_choose 25 = .ok (.if_icmp .ge 48, 3) := by decide +kernel
theorem d_M_choose_28 : decode c_M_choose 28 = .ok (.iload_n 3, 1) := by decide +kernel
theorem d_M_choose_29 : decode c_M_choose 29 = .ok (.aload_n 0, 1) := by decide +kernel
theorem d_M_choose_30 : decode c_M_choose 30 = .ok (.getfield 7, 3) := by decide +kernel
theorem d_M_choose_33 : decode c_M_choose 33 = .ok (.iload 4, 2) := by decide +kernel
theorem d_M_choose_35 : decode c_M_choose 35 = .ok (.baload, 1) := by decide +kernel
theorem d_M_choose_36 : decode c_M_choose 36 = .ok (.ifCond .eq 28, 3) := by decide +kernel
theorem d_M_choose_39 : decode c_M_choose 39 = .ok (.aload_n 0, 1) := by decide +kernel
theorem d_M_choose_40 : decode c_M_choose 40 = .ok (.iload 4, 2) := by decide +kernel
theorem d_M_choose_42 : decode c_M_choose 42 = .ok (.aload_n 0, 1) := by decide +kernel
theorem d_M_choose_43 : decode c_M_choose 43 = .ok (.getfield 20, 3) := by decide +kernel
theorem d_M_choose_46 : decode c_M_choose 46 = .ok (.iload_n 2, 1) := by decide +kernel
theorem d_M_choose_47 : decode c_M_choose 47 = .ok (.iaload, 1) := by decide +kernel
theorem d_M_choose_48 : decode c_M_choose 48 = .ok (.aload_n 0, 1) := by decide +kernel
theorem d_M_choose_49 : decode c_M_choose 49 = .ok (.getfield 23, 3) := by decide +kernel
theorem d_M_choose_52 : decode c_M_choose 52 = .ok (.iload_n 2, 1) := by decide +kernel
theorem d_M_choose_53 : decode c_M_choose 53 = .ok (.iaload, 1) := by decide +kernel
theorem d_M_choose_54 : decode c_M_choose 54 = .ok (.invokevirtual 151, 3) := by decide +kernel
theorem d_M_choose_57 : decode c_M_choose 57 = .ok (.ifCond .eq 7, 3) := by decide +kernel
theorem d_M_choose_60 : decode c_M_choose 60 = .ok (.iconst 1, 1) := by decide +kernel
theorem d_M_choose_61 : decode c_M_choose 61 = .ok (.goto 4, 3) := by decide +kernel
theorem d_M_choose_64 : decode c_M_choose 64 = .ok (.iconst 0, 1) := by decide +kernel
theorem d_M_choose_65 : decode c_M_choose 65 = .ok (.iadd, 1) := by decide +kernel
theorem d_M_choose_66 : decode c_M_choose 66 = .ok (.istore_n 3, 1) := by decide +kernel
theorem d_M_choose_67 : decode c_M_choose 67 = .ok (.iinc 4 1, 3) := by decide +kernel
theorem d_M_choose_70 : decode c_M_choose 70 = .ok (.goto (-51), 3) := by decide +kernel
theorem d_M_choose_73 : decode c_M_choose 73 = .ok (.aload_n 0, 1) := by decide +kernel
theorem d_M_choose_74 : decode c_M_choose 74 = .ok (.getfield 7, 3) := by decide +kernel
theorem d_M_choose_77 : decode c_M_choose 77 = .ok (.iload_n 2, 1) := by decide +kernel
theorem d_M_choose_78 : decode c_M_choose 78 = .ok (.iconst 3, 1) := by decide +kernel
theorem d_M_choose_79 : decode c_M_choose 79 = .ok (.idiv, 1) := by decide +kernel
theorem d_M_choose_80 : decode c_M_choose 80 = .ok (.baload, 1) := by decide +kernel
theorem d_M_choose_81 : decode c_M_choose 81 = .ok (.ifCond .eq 24, 3) := by decide +kernel
theorem d_M_choose_84 : decode c_M_choose 84 = .ok (.aload_n 0, 1) := by decide +kernel
theorem d_M_choose_85 : decode c_M_choose 85 = .ok (.getfield 20, 3) := by decide +kernel
theorem d_M_choose_88 : decode c_M_choose 88 = .ok (.iload_n 2, 1) := by decide +kernel
theorem d_M_choose_89 : decode c_M_choose 89 = .ok (.iaload, 1) := by decide +kernel
theorem d_M_choose_90 : decode c_M_choose 90 = .ok (.ifCond .le 15, 3) := by decide +kernel
theorem d_M_choose_93 : decode c_M_choose 93 = .ok (.aload_n 0, 1) := by decide +kernel
theorem d_M_choose_94 : decode c_M_choose 94 = .ok (.iload_n 3, 1) := by decide +kernel
theorem d_M_choose_95 : decode c_M_choose 95 = .ok (.invokevirtual 104, 3) := by decide +kernel
theorem d_M_choose_98 : decode c_M_choose 98 = .ok (.ifCond .eq 7, 3) := by decide +kernel
theorem d_M_choose_101 : decode c_M_choose 101 = .ok (.iconst 1, 1) := by decide +kernel
theorem d_M_choose_102 : decode c_M_choose 102 = .ok (.goto 4, 3) := by decide +kernel
theorem d_M_choose_105 : decode c_M_choose 105 = .ok (.iconst 0, 1) := by decide +kernel
theorem d_M_choose_106 : decode c_M_choose 106 = .ok (.istore 4, 2) := by decide +kernel
theorem d_M_choose_108 : decode c_M_choose 108 = .ok (.iload 4, 2) := by decide +kernel
theorem d_M_choose_110 : decode c_M_choose 110 = .ok (.ifCond .eq 24, 3) := by decide +kernel
theorem d_M_choose_113 : decode c_M_choose 113 = .ok (.iload_n 1, 1) := by decide +kernel
theorem d_M_choose_114 : decode c_M_choose 114 = .ok (.ifCond .lt 18, 3) := by decide +kernel
theorem d_M_choose_117 : decode c_M_choose 117 = .ok (.aload_n 0, 1) := by decide +kernel
theorem d_M_choose_118 : decode c_M_choose 118 = .ok (.getfield 20, 3) := by decide +kernel
theorem d_M_choose_121 : decode c_M_choose 121 = .ok (.iload_n 2, 1) := by decide +kernel
theorem d_M_choose_122 : decode c_M_choose 122 = .ok (.iaload, 1) := by decide +kernel
theorem d_M_choose_123 : decode c_M_choose 123 = .ok (.aload_n 0, 1) := by decide +kernel
theorem d_M_choose_124 : decode c_M_choose 124 = .ok (.getfield 20, 3) := by decide +kernel
theorem d_M_choose_127 : decode c_M_choose 127 = .ok (.iload_n 1, 1) := by decide +kernel
theorem d_M_choose_128 : decode c_M_choose 128 = .ok (.iaload, 1) := by decide +kernel
theorem d_M_choose_129 : decode c_M_choose 129 = .ok (.if_icmp .le 5, 3) := by decide +kernel
theorem d_M_choose_132 : decode c_M_choose 132 = .ok (.iload_n 2, 1) := by decide +kernel
theorem d_M_choose_133 : decode c_M_choose 133 = .ok (.istore_n 1, 1) := by decide +kernel
theorem d_M_choose_134 : decode c_M_choose 134 = .ok (.iinc 2 1, 3) := by decide +kernel
theorem d_M_choose_137 : decode c_M_choose 137 = .ok (.goto (-133), 3) := by decide +kernel
theorem d_M_choose_140 : decode c_M_choose 140 = .ok (.iload_n 1, 1) := by decide +kernel
theorem d_M_choose_141 : decode c_M_choose 141 = .ok (.ireturn, 1) := by decide +kernel
theorem d_M_holds_0 : decode c_M_holds 0 = .ok (.iconst 0, 1) := by decide +kernel
theorem d_M_holds_1 : decode c_M_holds 1 = .ok (.istore 4, 2) := by decide +kernel
theorem d_M_holds_3 : decode c_M_holds 3 = .ok (.iconst 3, 1) := by decide +kernel
theorem d_M_holds_4 : decode c_M_holds 4 = .ok (.iload_n 1, 1) := by decide +kernel
theorem d_M_holds_5 : decode c_M_holds 5 = .ok (.imul, 1) := by decide +kernel
theorem d_M_holds_6 : decode c_M_holds 6 = .ok (.istore 5, 2) := by decide +kernel
theorem d_M_holds_8 : decode c_M_holds 8 = .ok (.iload 5, 2) := by decide +kernel
theorem d_M_holds_10 : decode c_M_holds 10 = .ok (.iconst 3, 1) := by decide +kernel
theorem d_M_holds_11 : decode c_M_holds 11 = .ok (.iload_n 1, 1) := by decide +kernel
theorem d_M_holds_12 : decode c_M_holds 12 = .ok (.imul, 1) := by decide +kernel
theorem d_M_holds_13 : decode c_M_holds 13 = .ok (.iconst 3, 1) := by decide +kernel
theorem d_M_holds_14 : decode c_M_holds 14 = .ok (.iadd, 1) := by decide +kernel
theorem d_M_holds_15 : decode c_M_holds 15 = .ok (.if_icmp .ge 43, 3) := by decide +kernel
theorem d_M_holds_18 : decode c_M_holds 18 = .ok (.iload 4, 2) := by decide +kernel
theorem d_M_holds_20 : decode c_M_holds 20 = .ok (.ifCond .ne 25, 3) := by decide +kernel
theorem d_M_holds_23 : decode c_M_holds 23 = .ok (.aload_n 0, 1) := by decide +kernel
theorem d_M_holds_24 : decode c_M_holds 24 = .ok (.getfield 20, 3) := by decide +kernel
theorem d_M_holds_27 : decode c_M_holds 27 = .ok (.iload 5, 2) := by decide +kernel
theorem d_M_holds_29 : decode c_M_holds 29 = .ok (.iaload, 1) := by decide +kernel
theorem d_M_holds_30 : decode c_M_holds 30 = .ok (.iload_n 2, 1) := by decide +kernel
theorem d_M_holds_31 : decode c_M_holds 31 = .ok (.if_icmp .ne 18, 3) := by decide +kernel
theorem d_M_holds_34 : decode c_M_holds 34 = .ok (.aload_n 0, 1) := by decide +kernel
theorem d_M_holds_35 : decode c_M_holds 35 = .ok (.getfield 23, 3) := by decide +kernel
theorem d_M_holds_38 : decode c_M_holds 38 = .ok (.iload 5, 2) := by decide +kernel
theorem d_M_holds_40 : decode c_M_holds 40 = .ok (.iaload, 1) := by decide +kernel
theorem d_M_holds_41 : decode c_M_holds 41 = .ok (.iload_n 3, 1) := by decide +kernel
theorem d_M_holds_42 : decode c_M_holds 42 = .ok (.if_icmp .ne 7, 3) := by decide +kernel
theorem d_M_holds_45 : decode c_M_holds 45 = .ok (.iconst 1, 1) := by decide +kernel
theorem d_M_holds_46 : decode c_M_holds 46 = .ok (.goto 4, 3) := by decide +kernel
theorem d_M_holds_49 : decode c_M_holds 49 = .ok (.iconst 0, 1) := by decide +kernel
theorem d_M_holds_50 : decode c_M_holds 50 = .ok (.istore 4, 2) := by decide +kernel
theorem d_M_holds_52 : decode c_M_holds 52 = .ok (.iinc 5 1, 3) := by decide +kernel
theorem d_M_holds_55 : decode c_M_holds 55 = .ok (.goto (-47), 3) := by decide +kernel
theorem d_M_holds_58 : decode c_M_holds 58 = .ok (.iload 4, 2) := by decide +kernel
theorem d_M_holds_60 : decode c_M_holds 60 = .ok (.ireturn, 1) := by decide +kernel
theorem d_M_settle_0 : decode c_M_settle 0 = .ok (.iconst 3, 1) := by decide +kernel
theorem d_M_settle_1 : decode c_M_settle 1 = .ok (.iload_n 1, 1) := by decide +kernel
theorem d_M_settle_2 : decode c_M_settle 2 = .ok (.imul, 1) := by decide +kernel
theorem d_M_settle_3 : decode c_M_settle 3 = .ok (.istore 4, 2) := by decide +kernel
theorem d_M_settle_5 : decode c_M_settle 5 = .ok (.iload 4, 2) := by decide +kernel
theorem d_M_settle_7 : decode c_M_settle 7 = .ok (.iconst 3, 1) := by decide +kernel
theorem d_M_settle_8 : decode c_M_settle 8 = .ok (.iload_n 1, 1) := by decide +kernel
theorem d_M_settle_9 : decode c_M_settle 9 = .ok (.imul, 1) := by decide +kernel
theorem d_M_settle_10 : decode c_M_settle 10 = .ok (.iconst 3, 1) := by decide +kernel
theorem d_M_settle_11 : decode c_M_settle 11 = .ok (.iadd, 1) := by decide +kernel
theorem d_M_settle_12 : decode c_M_settle 12 = .ok (.if_icmp .ge 45, 3) := by decide +kernel
theorem d_M_settle_15 : decode c_M_settle 15 = .ok (.aload_n 0, 1) := by decide +kernel
theorem d_M_settle_16 : decode c_M_settle 16 = .ok (.getfield 20, 3) := by decide +kernel
theorem d_M_settle_19 : decode c_M_settle 19 = .ok (.iload 4, 2) := by decide +kernel
theorem d_M_settle_21 : decode c_M_settle 21 = .ok (.iaload, 1) := by decide +kernel
theorem d_M_settle_22 : decode c_M_settle 22 = .ok (.iload_n 2, 1) := by decide +kernel
theorem d_M_settle_23 : decode c_M_settle 23 = .ok (.if_icmp .le 28, 3) := by decide +kernel
theorem d_M_settle_26 : decode c_M_settle 26 = .ok (.aload_n 0, 1) := by decide +kernel
theorem d_M_settle_27 : decode c_M_settle 27 = .ok (.invokevirtual 86, 3) := by decide +kernel
theorem d_M_settle_30 : decode c_M_settle 30 = .ok (.ifCond .eq 5, 3) := by decide +kernel
theorem d_M_settle_33 : decode c_M_settle 33 = .ok (.iconst 0, 1) := by decide +kernel
theorem d_M_settle_34 : decode c_M_settle 34 = .ok (.ireturn, 1) := by decide +kernel
theorem d_M_settle_35 : decode c_M_settle 35 = .ok (.aload_n 0, 1) := by decide +kernel
theorem d_M_settle_36 : decode c_M_settle 36 = .ok (.getfield 20, 3) := by decide +kernel
theorem d_M_settle_39 : decode c_M_settle 39 = .ok (.iload 4, 2) := by decide +kernel
theorem d_M_settle_41 : decode c_M_settle 41 = .ok (.iconst 0, 1) := by decide +kernel
theorem d_M_settle_42 : decode c_M_settle 42 = .ok (.iastore, 1) := by decide +kernel
theorem d_M_settle_43 : decode c_M_settle 43 = .ok (.aload_n 0, 1) := by decide +kernel
theorem d_M_settle_44 : decode c_M_settle 44 = .ok (.getfield 23, 3) := by decide +kernel
theorem d_M_settle_47 : decode c_M_settle 47 = .ok (.iload 4, 2) := by decide +kernel
theorem d_M_settle_49 : decode c_M_settle 49 = .ok (.iconst 0, 1) := by decide +kernel
theorem d_M_settle_50 : decode c_M_settle 50 = .ok (.iastore, 1) := by decide +kernel
theorem d_M_settle_51 : decode c_M_settle 51 = .ok (.iinc 4 1, 3) := by decide +kernel
theorem d_M_settle_54 : decode c_M_settle 54 = .ok (.goto (-49), 3) := by decide +kernel
theorem d_M_settle_57 : decode c_M_settle 57 = .ok (.aload_n 0, 1) := by decide +kernel
theorem d_M_settle_58 : decode c_M_settle 58 = .ok (.iload_n 1, 1) := by decide +kernel
theorem d_M_settle_59 : decode c_M_settle 59 = .ok (.iload_n 2, 1) := by decide +kernel
theorem d_M_settle_60 : decode c_M_settle 60 = .ok (.iload_n 3, 1) := by decide +kernel
theorem d_M_settle_61 : decode c_M_settle 61 = .ok (.invokevirtual 151, 3) := by decide +kernel
theorem d_M_settle_64 : decode c_M_settle 64 = .ok (.ifCond .ne 19, 3) := by decide +kernel
theorem d_M_settle_67 : decode c_M_settle 67 = .ok (.aload_n 0, 1) := by decide +kernel
theorem d_M_settle_68 : decode c_M_settle 68 = .ok (.aload_n 0, 1) := by decide +kernel
theorem d_M_settle_69 : decode c_M_settle 69 = .ok (.iload_n 1, 1) := by decide +kernel
theorem d_M_settle_70 : decode c_M_settle 70 = .ok (.invokevirtual 94, 3) := by decide +kernel
theorem d_M_settle_73 : decode c_M_settle 73 = .ok (.bipush 16, 2) := by decide +kernel
theorem d_M_settle_75 : decode c_M_settle 75 = .ok (.iload_n 2, 1) := by decide +kernel
theorem d_M_settle_76 : decode c_M_settle 76 = .ok (.iload_n 3, 1) := by decide +kernel
theorem d_M_settle_77 : decode c_M_settle 77 = .ok (.invokevirtual 100, 3) := by decide +kernel
theorem d_M_settle_80 : decode c_M_settle 80 = .ok (.ifCond .eq 7, 3) := by decide +kernel
theorem d_M_settle_83 : decode c_M_settle 83 = .ok (.iconst 1, 1) := by decide +kernel
theorem d_M_settle_84 : decode c_M_settle 84 = .ok (.goto 4, 3) := by decide +kernel
theorem d_M_settle_87 : decode c_M_settle 87 = .ok (.iconst 0, 1) := by decide +kernel
theorem d_M_settle_88 : decode c_M_settle 88 = .ok (.ireturn, 1) := by decide +kernel
theorem d_M_where_0 : decode c_M_where 0 = .ok (.aload_n 0, 1) := by decide +kernel
theorem d_M_where_1 : decode c_M_where 1 = .ok (.getfield 45, 3) := by decide +kernel
theorem d_M_where_4 : decode c_M_where 4 = .ok (.ifCond .ne 6, 3) := by decide +kernel
theorem d_M_where_7 : decode c_M_where 7 = .ok (.bipush (-2), 2) := by decide +kernel
theorem d_M_where_9 : decode c_M_where 9 = .ok (.ireturn, 1) := by decide +kernel
theorem d_M_where_10 : decode c_M_where 10 = .ok (.aload_n 0, 1) := by decide +kernel
theorem d_M_where_11 : decode c_M_where 11 = .ok (.iload_n 1, 1) := by decide +kernel
theorem d_M_where_12 : decode c_M_where 12 = .ok (.iload_n 2, 1) := by decide +kernel
theorem d_M_where_13 : decode c_M_where 13 = .ok (.invokevirtual 123, 3) := by decide +kernel
theorem d_M_where_16 : decode c_M_where 16 = .ok (.ifCond .eq 20, 3) := by decide +kernel
theorem d_M_where_19 : decode c_M_where 19 = .ok (.aload_n 0, 1) := by decide +kernel
theorem d_M_where_20 : decode c_M_where 20 = .ok (.bipush 15, 2) := by decide +kernel
theorem d_M_where_22 : decode c_M_where 22 = .ok (.bipush 15, 2) := by decide +kernel
theorem d_M_where_24 : decode c_M_where 24 = .ok (.iload_n 1, 1) := by decide +kernel
theorem d_M_where_25 : decode c_M_where 25 = .ok (.imul, 1) := by decide +kernel
theorem d_M_where_26 : decode c_M_where 26 = .ok (.iconst 3, 1) := by decide +kernel
theorem d_M_where_27 : decode c_M_where 27 = .ok (.iadd, 1) := by decide +kernel
theorem d_M_where_28 : decode c_M_where 28 = .ok (.iload_n 2, 1) := by decide +kernel
theorem d_M_where_29 : decode c_M_where 29 = .ok (.iadd, 1) := by decide +kernel
theorem d_M_where_30 : decode c_M_where 30 = .ok (.invokevirtual 49, 3) := by decide +kernel
theorem d_M_where_33 : decode c_M_where 33 = .ok (.goto 4, 3) := by decide +kernel
theorem d_M_where_36 : decode c_M_where 36 = .ok (.iconst (-1), 1) := by decide +kernel
theorem d_M_where_37 : decode c_M_where 37 = .ok (.ireturn, 1) := by decide +kernel
theorem d_M_rows_0 : decode c_M_rows 0 = .ok (.aload_n 0, 1) := by decide +kernel
theorem d_M_rows_1 : decode c_M_rows 1 = .ok (.getfield 45, 3) := by decide +kernel
theorem d_M_rows_4 : decode c_M_rows 4 = .ok (.ifCond .ne 8, 3) := by decide +kernel
theorem d_M_rows_7 : decode c_M_rows 7 = .ok (.bipush (-2), 2) := by decide +kernel
theorem d_M_rows_9 : decode c_M_rows 9 = .ok (.goto 22, 3) := by decide +kernel
theorem d_M_rows_12 : decode c_M_rows 12 = .ok (.aload_n 0, 1) := by decide +kernel
theorem d_M_rows_13 : decode c_M_rows 13 = .ok (.iload_n 1, 1) := by decide +kernel
theorem d_M_rows_14 : decode c_M_rows 14 = .ok (.invokevirtual 117, 3) := by decide +kernel
theorem d_M_rows_17 : decode c_M_rows 17 = .ok (.ifCond .eq 13, 3) := by decide +kernel
theorem d_M_rows_20 : decode c_M_rows 20 = .ok (.aload_n 0, 1) := by decide +kernel
theorem d_M_rows_21 : decode c_M_rows 21 = .ok (.bipush 15, 2) := by decide +kernel
theorem d_M_rows_23 : decode c_M_rows 23 = .ok (.iload_n 1, 1) := by decide +kernel
theorem d_M_rows_24 : decode c_M_rows 24 = .ok (.invokevirtual 53, 3) := by decide +kernel
theorem d_M_rows_27 : decode c_M_rows 27 = .ok (.goto 4, 3) := by decide +kernel
theorem d_M_rows_30 : decode c_M_rows 30 = .ok (.iconst (-1), 1) := by decide +kernel
theorem d_M_rows_31 : decode c_M_rows 31 = .ok (.ireturn, 1) := by decide +kernel
theorem d_M_free_0 : decode c_M_free 0 = .ok (.aload_n 0, 1) := by decide +kernel
theorem d_M_free_1 : decode c_M_free 1 = .ok (.getfield 45, 3) := by decide +kernel
theorem d_M_free_4 : decode c_M_free 4 = .ok (.ifCond .ne 8, 3) := by decide +kernel
theorem d_M_free_7 : decode c_M_free 7 = .ok (.bipush (-2), 2) := by decide +kernel
theorem d_M_free_9 : decode c_M_free 9 = .ok (.goto 22, 3) := by decide +kernel
theorem d_M_free_12 : decode c_M_free 12 = .ok (.aload_n 0, 1) := by decide +kernel
theorem d_M_free_13 : decode c_M_free 13 = .ok (.iload_n 1, 1) := by decide +kernel
theorem d_M_free_14 : decode c_M_free 14 = .ok (.invokevirtual 148, 3) := by decide +kernel
theorem d_M_free_17 : decode c_M_free 17 = .ok (.ifCond .eq 13, 3) := by decide +kernel
theorem d_M_free_20 : decode c_M_free 20 = .ok (.aload_n 0, 1) := by decide +kernel
theorem d_M_free_21 : decode c_M_free 21 = .ok (.bipush 15, 2) := by decide +kernel
theorem d_M_free_23 : decode c_M_free 23 = .ok (.iload_n 1, 1) := by decide +kernel
theorem d_M_free_24 : decode c_M_free 24 = .ok (.invokevirtual 66, 3) := by decide +kernel
theorem d_M_free_27 : decode c_M_free 27 = .ok (.goto 4, 3) := by decide +kernel
theorem d_M_free_30 : decode c_M_free 30 = .ok (.iconst (-1), 1) := by decide +kernel
theorem d_M_free_31 : decode c_M_free 31 = .ok (.ireturn, 1) := by decide +kernel
theorem d_M_moving_0 : decode c_M_moving 0 = .ok (.aload_n 0, 1) := by decide +kernel
theorem d_M_moving_1 : decode c_M_moving 1 = .ok (.getfield 45, 3) := by decide +kernel
theorem d_M_moving_4 : decode c_M_moving 4 = .ok (.ifCond .ne 6, 3) := by decide +kernel
theorem d_M_moving_7 : decode c_M_moving 7 = .ok (.bipush (-2), 2) := by decide +kernel
theorem d_M_moving_9 : decode c_M_moving 9 = .ok (.ireturn, 1) := by decide +kernel
theorem d_M_moving_10 : decode c_M_moving 10 = .ok (.aload_n 0, 1) := by decide +kernel
theorem d_M_moving_11 : decode c_M_moving 11 = .ok (.bipush 15, 2) := by decide +kernel
theorem d_M_moving_13 : decode c_M_moving 13 = .ok (.bipush 60, 2) := by decide +kernel
theorem d_M_moving_15 : decode c_M_moving 15 = .ok (.invokevirtual 49, 3) := by decide +kernel
theorem d_M_moving_18 : decode c_M_moving 18 = .ok (.istore_n 1, 1) := by decide +kernel
theorem d_M_moving_19 : decode c_M_moving 19 = .ok (.iload_n 1, 1) := by decide +kernel
theorem d_M_moving_20 : decode c_M_moving 20 = .ok (.ifCond .ge 8, 3) := by decide +kernel
theorem d_M_moving_23 : decode c_M_moving 23 = .ok (.bipush (-8), 2) := by decide +kernel
theorem d_M_moving_25 : decode c_M_moving 25 = .ok (.goto 25, 3) := by decide +kernel
theorem d_M_moving_28 : decode c_M_moving 28 = .ok (.sipush 128, 3) := by decide +kernel
theorem d_M_moving_31 : decode c_M_moving 31 = .ok (.iload_n 1, 1) := by decide +kernel
theorem d_M_moving_32 : decode c_M_moving 32 = .ok (.imul, 1) := by decide +kernel
theorem d_M_moving_33 : decode c_M_moving 33 = .ok (.bipush 16, 2) := by decide +kernel
theorem d_M_moving_35 : decode c_M_moving 35 = .ok (.aload_n 0, 1) := by decide +kernel
theorem d_M_moving_36 : decode c_M_moving 36 = .ok (.getfield 126, 3) := by decide +kernel
theorem d_M_moving_39 : decode c_M_moving 39 = .ok (.imul, 1) := by decide +kernel
theorem d_M_moving_40 : decode c_M_moving 40 = .ok (.iadd, 1) := by decide +kernel
theorem d_M_moving_41 : decode c_M_moving 41 = .ok (.aload_n 0, 1) := by decide +kernel
theorem d_M_moving_42 : decode c_M_moving 42 = .ok (.bipush 15, 2) := by decide +kernel
theorem d_M_moving_44 : decode c_M_moving 44 = .ok (.bipush 61, 2) := by decide +kernel
theorem d_M_moving_46 : decode c_M_moving 46 = .ok (.invokevirtual 49, 3) := by decide +kernel
theorem d_M_moving_49 : decode c_M_moving 49 = .ok (.iadd, 1) := by decide +kernel
theorem d_M_moving_50 : decode c_M_moving 50 = .ok (.ireturn, 1) := by decide +kernel
theorem d_M_sequence_0 : decode c_M_sequence 0 = .ok (.aload_n 0, 1) := by decide +kernel
theorem d_M_sequence_1 : decode c_M_sequence 1 = .ok (.getfield 45, 3) := by decide +kernel
theorem d_M_sequence_4 : decode c_M_sequence 4 = .ok (.ifCond .eq 10, 3) := by decide +kernel
theorem d_M_sequence_7 : decode c_M_sequence 7 = .ok (.aload_n 0, 1) := by decide +kernel
theorem d_M_sequence_8 : decode c_M_sequence 8 = .ok (.getfield 36, 3) := by decide +kernel
theorem d_M_sequence_11 : decode c_M_sequence 11 = .ok (.goto 5, 3) := by decide +kernel
theorem d_M_sequence_14 : decode c_M_sequence 14 = .ok (.bipush (-2), 2) := by decide +kernel
theorem d_M_sequence_16 : decode c_M_sequence 16 = .ok (.ireturn, 1) := by decide +kernel
theorem d_M_slot_0 : decode c_M_slot 0 = .ok (.aload_n 0, 1) := by decide +kernel
theorem d_M_slot_1 : decode c_M_slot 1 = .ok (.iload_n 1, 1) := by decide +kernel
theorem d_M_slot_2 : decode c_M_slot 2 = .ok (.invokevirtual 148, 3) := by decide +kernel
theorem d_M_slot_5 : decode c_M_slot 5 = .ok (.ifCond .eq 25, 3) := by decide +kernel
theorem d_M_slot_8 : decode c_M_slot 8 = .ok (.iload_n 2, 1) := by decide +kernel
theorem d_M_slot_9 : decode c_M_slot 9 = .ok (.ifCond .lt 21, 3) := by decide +kernel
theorem d_M_slot_12 : decode c_M_slot 12 = .ok (.iload_n 2, 1) := by decide +kernel
theorem d_M_slot_13 : decode c_M_slot 13 = .ok (.iconst 3, 1) := by decide +kernel
theorem d_M_slot_14 : decode c_M_slot 14 = .ok (.if_icmp .ge 16, 3) := by decide +kernel
theorem d_M_slot_17 : decode c_M_slot 17 = .ok (.aload_n 0, 1) := by decide +kernel
theorem d_M_slot_18 : decode c_M_slot 18 = .ok (.getfield 20, 3) := by decide +kernel
theorem d_M_slot_21 : decode c_M_slot 21 = .ok (.iconst 3, 1) := by decide +kernel
theorem d_M_slot_22 : decode c_M_slot 22 = .ok (.iload_n 1, 1) := by decide +kernel
theorem d_M_slot_23 : decode c_M_slot 23 = .ok (.imul, 1) := by decide +kernel
theorem d_M_slot_24 : decode c_M_slot 24 = .ok (.iload_n 2, 1) := by decide +kernel
theorem d_M_slot_25 : decode c_M_slot 25 = .ok (.iadd, 1) := by decide +kernel
theorem d_M_slot_26 : decode c_M_slot 26 = .ok (.iaload, 1) := by decide +kernel
theorem d_M_slot_27 : decode c_M_slot 27 = .ok (.goto 4, 3) := by decide +kernel
theorem d_M_slot_30 : decode c_M_slot 30 = .ok (.iconst (-1), 1) := by decide +kernel
theorem d_M_slot_31 : decode c_M_slot 31 = .ok (.ireturn, 1) := by decide +kernel
