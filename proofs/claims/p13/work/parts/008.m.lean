theorem d_X14_compile_165 : decode b_X14_compile 165 = .ok (.ireturn, 1) := by decide +kernel
theorem d_X14_compile_166 : decode b_X14_compile 166 = .ok (.aload_n 0, 1) := by decide +kernel
theorem d_X14_compile_167 : decode b_X14_compile 167 = .ok (.getfield 89, 3) := by decide +kernel
theorem d_X14_compile_170 : decode b_X14_compile 170 = .ok (.aload_n 0, 1) := by decide +kernel
theorem d_X14_compile_171 : decode b_X14_compile 171 = .ok (.getfield 327, 3) := by decide +kernel
theorem d_X14_compile_174 : decode b_X14_compile 174 = .ok (.aload_n 0, 1) := by decide +kernel
theorem d_X14_compile_175 : decode b_X14_compile 175 = .ok (.getfield 515, 3) := by decide +kernel
theorem d_X14_compile_178 : decode b_X14_compile 178 = .ok (.iastore, 1) := by decide +kernel
theorem d_X14_compile_179 : decode b_X14_compile 179 = .ok (.aload_n 0, 1) := by decide +kernel
theorem d_X14_compile_180 : decode b_X14_compile 180 = .ok (.dup, 1) := by decide +kernel
theorem d_X14_compile_181 : decode b_X14_compile 181 = .ok (.getfield 327, 3) := by decide +kernel
theorem d_X14_compile_184 : decode b_X14_compile 184 = .ok (.iconst 1, 1) := by decide +kernel
theorem d_X14_compile_185 : decode b_X14_compile 185 = .ok (.iadd, 1) := by decide +kernel
theorem d_X14_compile_186 : decode b_X14_compile 186 = .ok (.putfield 327, 3) := by decide +kernel
theorem d_X14_compile_189 : decode b_X14_compile 189 = .ok (.aload_n 0, 1) := by decide +kernel
theorem d_X14_compile_190 : decode b_X14_compile 190 = .ok (.getfield 86, 3) := by decide +kernel
theorem d_X14_compile_193 : decode b_X14_compile 193 = .ok (.aload_n 0, 1) := by decide +kernel
theorem d_X14_compile_194 : decode b_X14_compile 194 = .ok (.getfield 327, 3) := by decide +kernel
theorem d_X14_compile_197 : decode b_X14_compile 197 = .ok (.aload_n 0, 1) := by decide +kernel
theorem d_X14_compile_198 : decode b_X14_compile 198 = .ok (.getfield 330, 3) := by decide +kernel
theorem d_X14_compile_201 : decode b_X14_compile 201 = .ok (.iastore, 1) := by decide +kernel
theorem d_X14_compile_202 : decode b_X14_compile 202 = .ok (.aload_n 0, 1) := by decide +kernel
theorem d_X14_compile_203 : decode b_X14_compile 203 = .ok (.getfield 92, 3) := by decide +kernel
theorem d_X14_compile_206 : decode b_X14_compile 206 = .ok (.aload_n 0, 1) := by decide +kernel
theorem d_X14_compile_207 : decode b_X14_compile 207 = .ok (.getfield 327, 3) := by decide +kernel
theorem d_X14_compile_210 : decode b_X14_compile 210 = .ok (.aload_n 0, 1) := by decide +kernel
theorem d_X14_compile_211 : decode b_X14_compile 211 = .ok (.getfield 324, 3) := by decide +kernel
theorem d_X14_compile_214 : decode b_X14_compile 214 = .ok (.iastore, 1) := by decide +kernel
theorem d_X14_compile_215 : decode b_X14_compile 215 = .ok (.aload_n 0, 1) := by decide +kernel
theorem d_X14_compile_216 : decode b_X14_compile 216 = .ok (.getfield 327, 3) := by decide +kernel
theorem d_X14_compile_219 : decode b_X14_compile 219 = .ok (.ireturn, 1) := by decide +kernel
theorem d_X14_condition_0 : decode b_X14_condition 0 = .ok (.aload_n 0, 1) := by decide +kernel
theorem d_X14_condition_1 : decode b_X14_condition 1 = .ok (.bipush 20, 2) := by decide +kernel
theorem d_X14_condition_3 : decode b_X14_condition 3 = .ok (.invokevirtual 497, 3) := by decide +kernel
theorem d_X14_condition_6 : decode b_X14_condition 6 = .ok (.aload_n 0, 1) := by decide +kernel
theorem d_X14_condition_7 : decode b_X14_condition 7 = .ok (.iconst 1, 1) := by decide +kernel
theorem d_X14_condition_8 : decode b_X14_condition 8 = .ok (.invokevirtual 395, 3) := by decide +kernel
theorem d_X14_condition_11 : decode b_X14_condition 11 = .ok (.astore_n 2, 1) := by decide +kernel
theorem d_X14_condition_12 : decode b_X14_condition 12 = .ok (.aload_n 0, 1) := by decide +kernel
theorem d_X14_condition_13 : decode b_X14_condition 13 = .ok (.aload_n 2, 1) := by decide +kernel
theorem d_X14_condition_14 : decode b_X14_condition 14 = .ok (.invokevirtual 398, 3) := by decide +kernel
theorem d_X14_condition_17 : decode b_X14_condition 17 = .ok (.aload_n 0, 1) := by decide +kernel
theorem d_X14_condition_18 : decode b_X14_condition 18 = .ok (.bipush 21, 2) := by decide +kernel
theorem d_X14_condition_20 : decode b_X14_condition 20 = .ok (.invokevirtual 497, 3) := by decide +kernel
theorem d_X14_condition_23 : decode b_X14_condition 23 = .ok (.aload_n 0, 1) := by decide +kernel
theorem d_X14_condition_24 : decode b_X14_condition 24 = .ok (.aload_n 2, 1) := by decide +kernel
theorem d_X14_condition_25 : decode b_X14_condition 25 = .ok (.invokestatic 431, 3) := by decide +kernel
theorem d_X14_condition_28 : decode b_X14_condition 28 = .ok (.iload_n 1, 1) := by decide +kernel
theorem d_X14_condition_29 : decode b_X14_condition 29 = .ok (.invokevirtual 410, 3) := by decide +kernel
theorem d_X14_condition_32 : decode b_X14_condition 32 = .ok (.return_, 1) := by decide +kernel
theorem d_X14_count_0 : decode b_X14_count 0 = .ok (.aload_n 0, 1) := by decide +kernel
theorem d_X14_count_1 : decode b_X14_count 1 = .ok (.iload_n 1, 1) := by decide +kernel
theorem d_X14_count_2 : decode b_X14_count 2 = .ok (.invokevirtual 680, 3) := by decide +kernel
theorem d_X14_count_5 : decode b_X14_count 5 = .ok (.ifCond .ne 7, 3) := by decide +kernel
theorem d_X14_count_8 : decode b_X14_count 8 = .ok (.iconst (-1), 1) := by decide +kernel
theorem d_X14_count_9 : decode b_X14_count 9 = .ok (.goto 32, 3) := by decide +kernel
theorem d_X14_count_12 : decode b_X14_count 12 = .ok (.iload_n 2, 1) := by decide +kernel
theorem d_X14_count_13 : decode b_X14_count 13 = .ok (.ifCond .ne 11, 3) := by decide +kernel
theorem d_X14_count_16 : decode b_X14_count 16 = .ok (.aload_n 0, 1) := by decide +kernel
theorem d_X14_count_17 : decode b_X14_count 17 = .ok (.iload_n 1, 1) := by decide +kernel
theorem d_X14_count_18 : decode b_X14_count 18 = .ok (.invokevirtual 683, 3) := by decide +kernel
theorem d_X14_count_21 : decode b_X14_count 21 = .ok (.goto 20, 3) := by decide +kernel
theorem d_X14_count_24 : decode b_X14_count 24 = .ok (.iload_n 2, 1) := by decide +kernel
theorem d_X14_count_25 : decode b_X14_count 25 = .ok (.iconst 1, 1) := by decide +kernel
theorem d_X14_count_26 : decode b_X14_count 26 = .ok (.if_icmp .ne 14, 3) := by decide +kernel
theorem d_X14_count_29 : decode b_X14_count 29 = .ok (.aload_n 0, 1) := by decide +kernel
theorem d_X14_count_30 : decode b_X14_count 30 = .ok (.getfield 89, 3) := by decide +kernel
theorem d_X14_count_33 : decode b_X14_count 33 = .ok (.iload_n 1, 1) := by decide +kernel
theorem d_X14_count_34 : decode b_X14_count 34 = .ok (.iconst 1, 1) := by decide +kernel
theorem d_X14_count_35 : decode b_X14_count 35 = .ok (.isub, 1) := by decide +kernel
theorem d_X14_count_36 : decode b_X14_count 36 = .ok (.iaload, 1) := by decide +kernel
theorem d_X14_count_37 : decode b_X14_count 37 = .ok (.goto 4, 3) := by decide +kernel
theorem d_X14_count_40 : decode b_X14_count 40 = .ok (.iconst (-1), 1) := by decide +kernel
theorem d_X14_count_41 : decode b_X14_count 41 = .ok (.ireturn, 1) := by decide +kernel
theorem d_X14_cut_0 : decode b_X14_cut 0 = .ok (.aload_n 0, 1) := by decide +kernel
theorem d_X14_cut_1 : decode b_X14_cut 1 = .ok (.iconst 0, 1) := by decide +kernel
theorem d_X14_cut_2 : decode b_X14_cut 2 = .ok (.putfield 206, 3) := by decide +kernel
theorem d_X14_cut_5 : decode b_X14_cut 5 = .ok (.iconst 0, 1) := by decide +kernel
theorem d_X14_cut_6 : decode b_X14_cut 6 = .ok (.istore_n 1, 1) := by decide +kernel
theorem d_X14_cut_7 : decode b_X14_cut 7 = .ok (.iconst 1, 1) := by decide +kernel
theorem d_X14_cut_8 : decode b_X14_cut 8 = .ok (.istore_n 2, 1) := by decide +kernel
theorem d_X14_cut_9 : decode b_X14_cut 9 = .ok (.iload_n 1, 1) := by decide +kernel
theorem d_X14_cut_10 : decode b_X14_cut 10 = .ok (.aload_n 0, 1) := by decide +kernel
theorem d_X14_cut_11 : decode b_X14_cut 11 = .ok (.getfield 203, 3) := by decide +kernel
theorem d_X14_cut_14 : decode b_X14_cut 14 = .ok (.if_icmp .ge 173, 3) := by decide +kernel
theorem d_X14_cut_17 : decode b_X14_cut 17 = .ok (.aload_n 0, 1) := by decide +kernel
theorem d_X14_cut_18 : decode b_X14_cut 18 = .ok (.iload_n 1, 1) := by decide +kernel
theorem d_X14_cut_19 : decode b_X14_cut 19 = .ok (.invokevirtual 209, 3) := by decide +kernel
theorem d_X14_cut_22 : decode b_X14_cut 22 = .ok (.istore_n 3, 1) := by decide +kernel
theorem d_X14_cut_23 : decode b_X14_cut 23 = .ok (.aload_n 0, 1) := by decide +kernel
theorem d_X14_cut_24 : decode b_X14_cut 24 = .ok (.getfield 206, 3) := by decide +kernel
theorem d_X14_cut_27 : decode b_X14_cut 27 = .ok (.istore 4, 2) := by decide +kernel
theorem d_X14_cut_29 : decode b_X14_cut 29 = .ok (.iload_n 1, 1) := by decide +kernel
theorem d_X14_cut_30 : decode b_X14_cut 30 = .ok (.iconst 1, 1) := by decide +kernel
theorem d_X14_cut_31 : decode b_X14_cut 31 = .ok (.iadd, 1) := by decide +kernel
theorem d_X14_cut_32 : decode b_X14_cut 32 = .ok (.istore 5, 2) := by decide +kernel
theorem d_X14_cut_34 : decode b_X14_cut 34 = .ok (.iload_n 3, 1) := by decide +kernel
theorem d_X14_cut_35 : decode b_X14_cut 35 = .ok (.invokestatic 213, 3) := by decide +kernel
theorem d_X14_cut_38 : decode b_X14_cut 38 = .ok (.ifCond .ne 16, 3) := by decide +kernel
theorem d_X14_cut_41 : decode b_X14_cut 41 = .ok (.aload_n 0, 1) := by decide +kernel
theorem d_X14_cut_42 : decode b_X14_cut 42 = .ok (.iconst 1, 1) := by decide +kernel
theorem d_X14_cut_43 : decode b_X14_cut 43 = .ok (.iload_n 1, 1) := by decide +kernel
theorem d_X14_cut_44 : decode b_X14_cut 44 = .ok (.iload 5, 2) := by decide +kernel
theorem d_X14_cut_46 : decode b_X14_cut 46 = .ok (.iload_n 2, 1) := by decide +kernel
theorem d_X14_cut_47 : decode b_X14_cut 47 = .ok (.iconst 0, 1) := by decide +kernel
theorem d_X14_cut_48 : decode b_X14_cut 48 = .ok (.invokevirtual 217, 3) := by decide +kernel
theorem d_X14_cut_51 : decode b_X14_cut 51 = .ok (.goto 75, 3) := by decide +kernel
theorem d_X14_cut_54 : decode b_X14_cut 54 = .ok (.iload_n 3, 1) := by decide +kernel
theorem d_X14_cut_55 : decode b_X14_cut 55 = .ok (.bipush 47, 2) := by decide +kernel
theorem d_X14_cut_57 : decode b_X14_cut 57 = .ok (.if_icmp .ne 25, 3) := by decide +kernel
theorem d_X14_cut_60 : decode b_X14_cut 60 = .ok (.aload_n 0, 1) := by decide +kernel
theorem d_X14_cut_61 : decode b_X14_cut 61 = .ok (.iload_n 1, 1) := by decide +kernel
theorem d_X14_cut_62 : decode b_X14_cut 62 = .ok (.iconst 1, 1) := by decide +kernel
theorem d_X14_cut_63 : decode b_X14_cut 63 = .ok (.iadd, 1) := by decide +kernel
theorem d_X14_cut_64 : decode b_X14_cut 64 = .ok (.invokevirtual 209, 3) := by decide +kernel
theorem d_X14_cut_67 : decode b_X14_cut 67 = .ok (.bipush 47, 2) := by decide +kernel
theorem d_X14_cut_69 : decode b_X14_cut 69 = .ok (.if_icmp .ne 13, 3) := by decide +kernel
theorem d_X14_cut_72 : decode b_X14_cut 72 = .ok (.aload_n 0, 1) := by decide +kernel
theorem d_X14_cut_73 : decode b_X14_cut 73 = .ok (.iload_n 1, 1) := by decide +kernel
theorem d_X14_cut_74 : decode b_X14_cut 74 = .ok (.invokevirtual 221, 3) := by decide +kernel
theorem d_X14_cut_77 : decode b_X14_cut 77 = .ok (.istore 5, 2) := by decide +kernel
theorem d_X14_cut_79 : decode b_X14_cut 79 = .ok (.goto 47, 3) := by decide +kernel
theorem d_X14_cut_82 : decode b_X14_cut 82 = .ok (.iload_n 3, 1) := by decide +kernel
theorem d_X14_cut_83 : decode b_X14_cut 83 = .ok (.bipush 47, 2) := by decide +kernel
theorem d_X14_cut_85 : decode b_X14_cut 85 = .ok (.if_icmp .ne 26, 3) := by decide +kernel
theorem d_X14_cut_88 : decode b_X14_cut 88 = .ok (.aload_n 0, 1) := by decide +kernel
theorem d_X14_cut_89 : decode b_X14_cut 89 = .ok (.iload_n 1, 1) := by decide +kernel
theorem d_X14_cut_90 : decode b_X14_cut 90 = .ok (.iconst 1, 1) := by decide +kernel
theorem d_X14_cut_91 : decode b_X14_cut 91 = .ok (.iadd, 1) := by decide +kernel
theorem d_X14_cut_92 : decode b_X14_cut 92 = .ok (.invokevirtual 209, 3) := by decide +kernel
theorem d_X14_cut_95 : decode b_X14_cut 95 = .ok (.bipush 42, 2) := by decide +kernel
theorem d_X14_cut_97 : decode b_X14_cut 97 = .ok (.if_icmp .ne 14, 3) := by decide +kernel
theorem d_X14_cut_100 : decode b_X14_cut 100 = .ok (.aload_n 0, 1) := by decide +kernel
theorem d_X14_cut_101 : decode b_X14_cut 101 = .ok (.iload_n 1, 1) := by decide +kernel
theorem d_X14_cut_102 : decode b_X14_cut 102 = .ok (.iload_n 2, 1) := by decide +kernel
theorem d_X14_cut_103 : decode b_X14_cut 103 = .ok (.invokevirtual 224, 3) := by decide +kernel
theorem d_X14_cut_106 : decode b_X14_cut 106 = .ok (.istore 5, 2) := by decide +kernel
theorem d_X14_cut_108 : decode b_X14_cut 108 = .ok (.goto 18, 3) := by decide +kernel
theorem d_X14_cut_111 : decode b_X14_cut 111 = .ok (.iload_n 3, 1) := by decide +kernel
theorem d_X14_cut_112 : decode b_X14_cut 112 = .ok (.invokestatic 228, 3) := by decide +kernel
theorem d_X14_cut_115 : decode b_X14_cut 115 = .ok (.ifCond .ne 11, 3) := by decide +kernel
theorem d_X14_cut_118 : decode b_X14_cut 118 = .ok (.aload_n 0, 1) := by decide +kernel
theorem d_X14_cut_119 : decode b_X14_cut 119 = .ok (.iload_n 1, 1) := by decide +kernel
theorem d_X14_cut_120 : decode b_X14_cut 120 = .ok (.iload_n 2, 1) := by decide +kernel
theorem d_X14_cut_121 : decode b_X14_cut 121 = .ok (.invokevirtual 231, 3) := by decide +kernel
theorem d_X14_cut_124 : decode b_X14_cut 124 = .ok (.istore 5, 2) := by decide +kernel
theorem d_X14_cut_126 : decode b_X14_cut 126 = .ok (.aload_n 0, 1) := by decide +kernel
theorem d_X14_cut_127 : decode b_X14_cut 127 = .ok (.getfield 206, 3) := by decide +kernel
theorem d_X14_cut_130 : decode b_X14_cut 130 = .ok (.iload 4, 2) := by decide +kernel
theorem d_X14_cut_132 : decode b_X14_cut 132 = .ok (.if_icmp .le 19, 3) := by decide +kernel
theorem d_X14_cut_135 : decode b_X14_cut 135 = .ok (.aload_n 0, 1) := by decide +kernel
theorem d_X14_cut_136 : decode b_X14_cut 136 = .ok (.getfield 13, 3) := by decide +kernel
theorem d_X14_cut_139 : decode b_X14_cut 139 = .ok (.aload_n 0, 1) := by decide +kernel
theorem d_X14_cut_140 : decode b_X14_cut 140 = .ok (.getfield 206, 3) := by decide +kernel
theorem d_X14_cut_143 : decode b_X14_cut 143 = .ok (.iconst 1, 1) := by decide +kernel
theorem d_X14_cut_144 : decode b_X14_cut 144 = .ok (.isub, 1) := by decide +kernel
theorem d_X14_cut_145 : decode b_X14_cut 145 = .ok (.iaload, 1) := by decide +kernel
theorem d_X14_cut_146 : decode b_X14_cut 146 = .ok (.iconst 1, 1) := by decide +kernel
theorem d_X14_cut_147 : decode b_X14_cut 147 = .ok (.if_icmp .ne 4, 3) := by decide +kernel
theorem d_X14_cut_150 : decode b_X14_cut 150 = .ok (.return_, 1) := by decide +kernel
theorem d_X14_cut_151 : decode b_X14_cut 151 = .ok (.iload_n 1, 1) := by decide +kernel
theorem d_X14_cut_152 : decode b_X14_cut 152 = .ok (.istore 6, 2) := by decide +kernel
theorem d_X14_cut_154 : decode b_X14_cut 154 = .ok (.iload 6, 2) := by decide +kernel
theorem d_X14_cut_156 : decode b_X14_cut 156 = .ok (.iload 5, 2) := by decide +kernel
theorem d_X14_cut_158 : decode b_X14_cut 158 = .ok (.if_icmp .ge 23, 3) := by decide +kernel
theorem d_X14_cut_161 : decode b_X14_cut 161 = .ok (.aload_n 0, 1) := by decide +kernel
theorem d_X14_cut_162 : decode b_X14_cut 162 = .ok (.iload 6, 2) := by decide +kernel
theorem d_X14_cut_164 : decode b_X14_cut 164 = .ok (.invokevirtual 209, 3) := by decide +kernel
theorem d_X14_cut_167 : decode b_X14_cut 167 = .ok (.bipush 10, 2) := by decide +kernel
theorem d_X14_cut_169 : decode b_X14_cut 169 = .ok (.if_icmp .ne 6, 3) := by decide +kernel
theorem d_X14_cut_172 : decode b_X14_cut 172 = .ok (.iinc 2 1, 3) := by decide +kernel
theorem d_X14_cut_175 : decode b_X14_cut 175 = .ok (.iinc 6 1, 3) := by decide +kernel
theorem d_X14_cut_178 : decode b_X14_cut 178 = .ok (.goto (-24), 3) := by decide +kernel
theorem d_X14_cut_181 : decode b_X14_cut 181 = .ok (.iload 5, 2) := by decide +kernel
theorem d_X14_cut_183 : decode b_X14_cut 183 = .ok (.istore_n 1, 1) := by decide +kernel
theorem d_X14_cut_184 : decode b_X14_cut 184 = .ok (.goto (-175), 3) := by decide +kernel
theorem d_X14_cut_187 : decode b_X14_cut 187 = .ok (.aload_n 0, 1) := by decide +kernel
theorem d_X14_cut_188 : decode b_X14_cut 188 = .ok (.iconst 0, 1) := by decide +kernel
theorem d_X14_cut_189 : decode b_X14_cut 189 = .ok (.aload_n 0, 1) := by decide +kernel
theorem d_X14_cut_190 : decode b_X14_cut 190 = .ok (.getfield 203, 3) := by decide +kernel
theorem d_X14_cut_193 : decode b_X14_cut 193 = .ok (.aload_n 0, 1) := by decide +kernel
theorem d_X14_cut_194 : decode b_X14_cut 194 = .ok (.getfield 203, 3) := by decide +kernel
theorem d_X14_cut_197 : decode b_X14_cut 197 = .ok (.iload_n 2, 1) := by decide +kernel
theorem d_X14_cut_198 : decode b_X14_cut 198 = .ok (.iconst 0, 1) := by decide +kernel
theorem d_X14_cut_199 : decode b_X14_cut 199 = .ok (.invokevirtual 217, 3) := by decide +kernel
theorem d_X14_cut_202 : decode b_X14_cut 202 = .ok (.return_, 1) := by decide +kernel
theorem d_X14_decided_0 : decode b_X14_decided 0 = .ok (.aload_n 0, 1) := by decide +kernel
theorem d_X14_decided_1 : decode b_X14_decided 1 = .ok (.iload_n 1, 1) := by decide +kernel
theorem d_X14_decided_2 : decode b_X14_decided 2 = .ok (.bipush 11, 2) := by decide +kernel
theorem d_X14_decided_4 : decode b_X14_decided 4 = .ok (.if_icmp .ne 8, 3) := by decide +kernel
theorem d_X14_decided_7 : decode b_X14_decided 7 = .ok (.bipush 16, 2) := by decide +kernel
theorem d_X14_decided_9 : decode b_X14_decided 9 = .ok (.goto 5, 3) := by decide +kernel
theorem d_X14_decided_12 : decode b_X14_decided 12 = .ok (.bipush 17, 2) := by decide +kernel
theorem d_X14_decided_14 : decode b_X14_decided 14 = .ok (.invokevirtual 425, 3) := by decide +kernel
theorem d_X14_decided_17 : decode b_X14_decided 17 = .ok (.istore 5, 2) := by decide +kernel
theorem d_X14_decided_19 : decode b_X14_decided 19 = .ok (.aload_n 0, 1) := by decide +kernel
theorem d_X14_decided_20 : decode b_X14_decided 20 = .ok (.iload_n 1, 1) := by decide +kernel
theorem d_X14_decided_21 : decode b_X14_decided 21 = .ok (.invokestatic 440, 3) := by decide +kernel
theorem d_X14_decided_24 : decode b_X14_decided 24 = .ok (.iconst 1, 1) := by decide +kernel
theorem d_X14_decided_25 : decode b_X14_decided 25 = .ok (.iadd, 1) := by decide +kernel
theorem d_X14_decided_26 : decode b_X14_decided 26 = .ok (.iload 4, 2) := by decide +kernel
theorem d_X14_decided_28 : decode b_X14_decided 28 = .ok (.invokevirtual 421, 3) := by decide +kernel
theorem d_X14_decided_31 : decode b_X14_decided 31 = .ok (.astore 6, 2) := by decide +kernel
theorem d_X14_decided_33 : decode b_X14_decided 33 = .ok (.aload_n 0, 1) := by decide +kernel
theorem d_X14_decided_34 : decode b_X14_decided 34 = .ok (.aload 6, 2) := by decide +kernel
theorem d_X14_decided_36 : decode b_X14_decided 36 = .ok (.invokevirtual 398, 3) := by decide +kernel
theorem d_X14_decided_39 : decode b_X14_decided 39 = .ok (.aload_n 0, 1) := by decide +kernel
theorem d_X14_decided_40 : decode b_X14_decided 40 = .ok (.bipush 24, 2) := by decide +kernel
theorem d_X14_decided_42 : decode b_X14_decided 42 = .ok (.invokevirtual 318, 3) := by decide +kernel
theorem d_X14_decided_45 : decode b_X14_decided 45 = .ok (.aload_n 0, 1) := by decide +kernel
theorem d_X14_decided_46 : decode b_X14_decided 46 = .ok (.bipush 15, 2) := by decide +kernel
theorem d_X14_decided_48 : decode b_X14_decided 48 = .ok (.invokevirtual 425, 3) := by decide +kernel
theorem d_X14_decided_51 : decode b_X14_decided 51 = .ok (.istore 7, 2) := by decide +kernel
theorem d_X14_decided_53 : decode b_X14_decided 53 = .ok (.aload_n 0, 1) := by decide +kernel
theorem d_X14_decided_54 : decode b_X14_decided 54 = .ok (.iload 5, 2) := by decide +kernel
theorem d_X14_decided_56 : decode b_X14_decided 56 = .ok (.invokevirtual 428, 3) := by decide +kernel
theorem d_X14_decided_59 : decode b_X14_decided 59 = .ok (.aload_n 0, 1) := by decide +kernel
theorem d_X14_decided_60 : decode b_X14_decided 60 = .ok (.iconst 0, 1) := by decide +kernel
theorem d_X14_decided_61 : decode b_X14_decided 61 = .ok (.iload_n 1, 1) := by decide +kernel
theorem d_X14_decided_62 : decode b_X14_decided 62 = .ok (.bipush 11, 2) := by decide +kernel
theorem d_X14_decided_64 : decode b_X14_decided 64 = .ok (.if_icmp .ne 7, 3) := by decide +kernel
theorem d_X14_decided_67 : decode b_X14_decided 67 = .ok (.iconst 0, 1) := by decide +kernel
theorem d_X14_decided_68 : decode b_X14_decided 68 = .ok (.goto 4, 3) := by decide +kernel
theorem d_X14_decided_71 : decode b_X14_decided 71 = .ok (.iconst 1, 1) := by decide +kernel
theorem d_X14_decided_72 : decode b_X14_decided 72 = .ok (.invokevirtual 322, 3) := by decide +kernel
theorem d_X14_decided_75 : decode b_X14_decided 75 = .ok (.aload_n 0, 1) := by decide +kernel
theorem d_X14_decided_76 : decode b_X14_decided 76 = .ok (.iload 7, 2) := by decide +kernel
theorem d_X14_decided_78 : decode b_X14_decided 78 = .ok (.invokevirtual 428, 3) := by decide +kernel
theorem d_X14_decided_81 : decode b_X14_decided 81 = .ok (.aload_n 0, 1) := by decide +kernel
theorem d_X14_decided_82 : decode b_X14_decided 82 = .ok (.aload_n 2, 1) := by decide +kernel
theorem d_X14_decided_83 : decode b_X14_decided 83 = .ok (.invokestatic 431, 3) := by decide +kernel
theorem d_X14_decided_86 : decode b_X14_decided 86 = .ok (.ifCond .eq 15, 3) := by decide +kernel
theorem d_X14_decided_89 : decode b_X14_decided 89 = .ok (.aload 6, 2) := by decide +kernel
theorem d_X14_decided_91 : decode b_X14_decided 91 = .ok (.invokestatic 431, 3) := by decide +kernel
theorem d_X14_decided_94 : decode b_X14_decided 94 = .ok (.ifCond .eq 7, 3) := by decide +kernel
theorem d_X14_decided_97 : decode b_X14_decided 97 = .ok (.iconst 1, 1) := by decide +kernel
theorem d_X14_decided_98 : decode b_X14_decided 98 = .ok (.goto 4, 3) := by decide +kernel
theorem d_X14_decided_101 : decode b_X14_decided 101 = .ok (.iconst 0, 1) := by decide +kernel
theorem d_X14_decided_102 : decode b_X14_decided 102 = .ok (.iload_n 3, 1) := by decide +kernel
theorem d_X14_decided_103 : decode b_X14_decided 103 = .ok (.invokevirtual 410, 3) := by decide +kernel
theorem d_X14_decided_106 : decode b_X14_decided 106 = .ok (.aload_n 0, 1) := by decide +kernel
theorem d_X14_decided_107 : decode b_X14_decided 107 = .ok (.iconst 0, 1) := by decide +kernel
theorem d_X14_decided_108 : decode b_X14_decided 108 = .ok (.aload_n 2, 1) := by decide +kernel
theorem d_X14_decided_109 : decode b_X14_decided 109 = .ok (.aload 6, 2) := by decide +kernel
theorem d_X14_decided_111 : decode b_X14_decided 111 = .ok (.iload_n 3, 1) := by decide +kernel
theorem d_X14_decided_112 : decode b_X14_decided 112 = .ok (.invokevirtual 414, 3) := by decide +kernel
theorem d_X14_decided_115 : decode b_X14_decided 115 = .ok (.areturn, 1) := by decide +kernel
theorem d_X14_declare_0 : decode b_X14_declare 0 = .ok (.aload_n 0, 1) := by decide +kernel
theorem d_X14_declare_1 : decode b_X14_declare 1 = .ok (.getfield 330, 3) := by decide +kernel
theorem d_X14_declare_4 : decode b_X14_declare 4 = .ok (.aload_n 0, 1) := by decide +kernel
theorem d_X14_declare_5 : decode b_X14_declare 5 = .ok (.getfield 86, 3) := by decide +kernel
theorem d_X14_declare_8 : decode b_X14_declare 8 = .ok (.aload_n 0, 1) := by decide +kernel
theorem d_X14_declare_9 : decode b_X14_declare 9 = .ok (.getfield 327, 3) := by decide +kernel
theorem d_X14_declare_12 : decode b_X14_declare 12 = .ok (.iaload, 1) := by decide +kernel
theorem d_X14_declare_13 : decode b_X14_declare 13 = .ok (.isub, 1) := by decide +kernel
theorem d_X14_declare_14 : decode b_X14_declare 14 = .ok (.bipush 100, 2) := by decide +kernel
theorem d_X14_declare_16 : decode b_X14_declare 16 = .ok (.if_icmp .ne 11, 3) := by decide +kernel
theorem d_X14_declare_19 : decode b_X14_declare 19 = .ok (.aload_n 0, 1) := by decide +kernel
theorem d_X14_declare_20 : decode b_X14_declare 20 = .ok (.iconst 4, 1) := by decide +kernel
theorem d_X14_declare_21 : decode b_X14_declare 21 = .ok (.iload_n 1, 1) := by decide +kernel
theorem d_X14_declare_22 : decode b_X14_declare 22 = .ok (.invokevirtual 304, 3) := by decide +kernel
theorem d_X14_declare_25 : decode b_X14_declare 25 = .ok (.iconst (-1), 1) := by decide +kernel
theorem d_X14_declare_26 : decode b_X14_declare 26 = .ok (.ireturn, 1) := by decide +kernel
theorem d_X14_declare_27 : decode b_X14_declare 27 = .ok (.aload_n 0, 1) := by decide +kernel
theorem d_X14_declare_28 : decode b_X14_declare 28 = .ok (.getfield 330, 3) := by decide +kernel
theorem d_X14_declare_31 : decode b_X14_declare 31 = .ok (.istore_n 3, 1) := by decide +kernel
theorem d_X14_declare_32 : decode b_X14_declare 32 = .ok (.aload_n 0, 1) := by decide +kernel
theorem d_X14_declare_33 : decode b_X14_declare 33 = .ok (.dup, 1) := by decide +kernel
theorem d_X14_declare_34 : decode b_X14_declare 34 = .ok (.getfield 330, 3) := by decide +kernel
theorem d_X14_declare_37 : decode b_X14_declare 37 = .ok (.iconst 1, 1) := by decide +kernel
theorem d_X14_declare_38 : decode b_X14_declare 38 = .ok (.iadd, 1) := by decide +kernel
theorem d_X14_declare_39 : decode b_X14_declare 39 = .ok (.putfield 330, 3) := by decide +kernel
theorem d_X14_declare_42 : decode b_X14_declare 42 = .ok (.aload_n 0, 1) := by decide +kernel
theorem d_X14_declare_43 : decode b_X14_declare 43 = .ok (.getfield 44, 3) := by decide +kernel
theorem d_X14_declare_46 : decode b_X14_declare 46 = .ok (.iload_n 3, 1) := by decide +kernel
theorem d_X14_declare_47 : decode b_X14_declare 47 = .ok (.iload_n 2, 1) := by decide +kernel
theorem d_X14_declare_48 : decode b_X14_declare 48 = .ok (.iastore, 1) := by decide +kernel
theorem d_X14_declare_49 : decode b_X14_declare 49 = .ok (.aload_n 0, 1) := by decide +kernel
theorem d_X14_declare_50 : decode b_X14_declare 50 = .ok (.getfield 57, 3) := by decide +kernel
theorem d_X14_declare_53 : decode b_X14_declare 53 = .ok (.iload_n 3, 1) := by decide +kernel
theorem d_X14_declare_54 : decode b_X14_declare 54 = .ok (.iconst 0, 1) := by decide +kernel
theorem d_X14_declare_55 : decode b_X14_declare 55 = .ok (.bastore, 1) := by decide +kernel
theorem d_X14_declare_56 : decode b_X14_declare 56 = .ok (.aload_n 0, 1) := by decide +kernel
theorem d_X14_declare_57 : decode b_X14_declare 57 = .ok (.getfield 60, 3) := by decide +kernel
theorem d_X14_declare_60 : decode b_X14_declare 60 = .ok (.iload_n 3, 1) := by decide +kernel
theorem d_X14_declare_61 : decode b_X14_declare 61 = .ok (.iconst 0, 1) := by decide +kernel
theorem d_X14_declare_62 : decode b_X14_declare 62 = .ok (.bastore, 1) := by decide +kernel
theorem d_X14_declare_63 : decode b_X14_declare 63 = .ok (.aload_n 0, 1) := by decide +kernel
theorem d_X14_declare_64 : decode b_X14_declare 64 = .ok (.getfield 83, 3) := by decide +kernel
theorem d_X14_declare_67 : decode b_X14_declare 67 = .ok (.iload_n 3, 1) := by decide +kernel
theorem d_X14_declare_68 : decode b_X14_declare 68 = .ok (.aload_n 0, 1) := by decide +kernel
theorem d_X14_declare_69 : decode b_X14_declare 69 = .ok (.getfield 86, 3) := by decide +kernel
theorem d_X14_declare_72 : decode b_X14_declare 72 = .ok (.aload_n 0, 1) := by decide +kernel
theorem d_X14_declare_73 : decode b_X14_declare 73 = .ok (.getfield 327, 3) := by decide +kernel
theorem d_X14_declare_76 : decode b_X14_declare 76 = .ok (.iaload, 1) := by decide +kernel
theorem d_X14_declare_77 : decode b_X14_declare 77 = .ok (.isub, 1) := by decide +kernel
theorem d_X14_declare_78 : decode b_X14_declare 78 = .ok (.iconst (-1), 1) := by decide +kernel
theorem d_X14_declare_79 : decode b_X14_declare 79 = .ok (.iastore, 1) := by decide +kernel
theorem d_X14_declare_80 : decode b_X14_declare 80 = .ok (.aload_n 0, 1) := by decide +kernel
theorem d_X14_declare_81 : decode b_X14_declare 81 = .ok (.getfield 73, 3) := by decide +kernel
theorem d_X14_declare_84 : decode b_X14_declare 84 = .ok (.iload_n 3, 1) := by decide +kernel
theorem d_X14_declare_85 : decode b_X14_declare 85 = .ok (.aload_n 0, 1) := by decide +kernel
theorem d_X14_declare_86 : decode b_X14_declare 86 = .ok (.getfield 337, 3) := by decide +kernel
theorem d_X14_declare_89 : decode b_X14_declare 89 = .ok (.iastore, 1) := by decide +kernel
theorem d_X14_declare_90 : decode b_X14_declare 90 = .ok (.aload_n 0, 1) := by decide +kernel
theorem d_X14_declare_91 : decode b_X14_declare 91 = .ok (.getfield 76, 3) := by decide +kernel
theorem d_X14_declare_94 : decode b_X14_declare 94 = .ok (.iload_n 3, 1) := by decide +kernel
theorem d_X14_declare_95 : decode b_X14_declare 95 = .ok (.aload_n 0, 1) := by decide +kernel
theorem d_X14_declare_96 : decode b_X14_declare 96 = .ok (.getfield 20, 3) := by decide +kernel
theorem d_X14_declare_99 : decode b_X14_declare 99 = .ok (.iload_n 1, 1) := by decide +kernel
theorem d_X14_declare_100 : decode b_X14_declare 100 = .ok (.iaload, 1) := by decide +kernel
theorem d_X14_declare_101 : decode b_X14_declare 101 = .ok (.aload_n 0, 1) := by decide +kernel
theorem d_X14_declare_102 : decode b_X14_declare 102 = .ok (.getfield 17, 3) := by decide +kernel
theorem d_X14_declare_105 : decode b_X14_declare 105 = .ok (.iload_n 1, 1) := by decide +kernel
theorem d_X14_declare_106 : decode b_X14_declare 106 = .ok (.iaload, 1) := by decide +kernel
theorem d_X14_declare_107 : decode b_X14_declare 107 = .ok (.isub, 1) := by decide +kernel
theorem d_X14_declare_108 : decode b_X14_declare 108 = .ok (.iastore, 1) := by decide +kernel
theorem d_X14_declare_109 : decode b_X14_declare 109 = .ok (.aload_n 0, 1) := by decide +kernel
theorem d_X14_declare_110 : decode b_X14_declare 110 = .ok (.getfield 17, 3) := by decide +kernel
theorem d_X14_declare_113 : decode b_X14_declare 113 = .ok (.iload_n 1, 1) := by decide +kernel
theorem d_X14_declare_114 : decode b_X14_declare 114 = .ok (.iaload, 1) := by decide +kernel
theorem d_X14_declare_115 : decode b_X14_declare 115 = .ok (.istore 4, 2) := by decide +kernel
theorem d_X14_declare_117 : decode b_X14_declare 117 = .ok (.iload 4, 2) := by decide +kernel
theorem d_X14_declare_119 : decode b_X14_declare 119 = .ok (.aload_n 0, 1) := by decide +kernel
theorem d_X14_declare_120 : decode b_X14_declare 120 = .ok (.getfield 20, 3) := by decide +kernel
theorem d_X14_declare_123 : decode b_X14_declare 123 = .ok (.iload_n 1, 1) := by decide +kernel
theorem d_X14_declare_124 : decode b_X14_declare 124 = .ok (.iaload, 1) := by decide +kernel
theorem d_X14_declare_125 : decode b_X14_declare 125 = .ok (.if_icmp .ge 35, 3) := by decide +kernel
theorem d_X14_declare_128 : decode b_X14_declare 128 = .ok (.aload_n 0, 1) := by decide +kernel
theorem d_X14_declare_129 : decode b_X14_declare 129 = .ok (.getfield 80, 3) := by decide +kernel
theorem d_X14_declare_132 : decode b_X14_declare 132 = .ok (.aload_n 0, 1) := by decide +kernel
theorem d_X14_declare_133 : decode b_X14_declare 133 = .ok (.getfield 337, 3) := by decide +kernel
theorem d_X14_declare_136 : decode b_X14_declare 136 = .ok (.aload_n 0, 1) := by decide +kernel
theorem d_X14_declare_137 : decode b_X14_declare 137 = .ok (.getfield 9, 3) := by decide +kernel
theorem d_X14_declare_140 : decode b_X14_declare 140 = .ok (.iload 4, 2) := by decide +kernel
theorem d_X14_declare_142 : decode b_X14_declare 142 = .ok (.baload, 1) := by decide +kernel
theorem d_X14_declare_143 : decode b_X14_declare 143 = .ok (.bastore, 1) := by decide +kernel
theorem d_X14_declare_144 : decode b_X14_declare 144 = .ok (.aload_n 0, 1) := by decide +kernel
theorem d_X14_declare_145 : decode b_X14_declare 145 = .ok (.dup, 1) := by decide +kernel
theorem d_X14_declare_146 : decode b_X14_declare 146 = .ok (.getfield 337, 3) := by decide +kernel
theorem d_X14_declare_149 : decode b_X14_declare 149 = .ok (.iconst 1, 1) := by decide +kernel
theorem d_X14_declare_150 : decode b_X14_declare 150 = .ok (.iadd, 1) := by decide +kernel
theorem d_X14_declare_151 : decode b_X14_declare 151 = .ok (.putfield 337, 3) := by decide +kernel
theorem d_X14_declare_154 : decode b_X14_declare 154 = .ok (.iinc 4 1, 3) := by decide +kernel
theorem d_X14_declare_157 : decode b_X14_declare 157 = .ok (.goto (-40), 3) := by decide +kernel
theorem d_X14_declare_160 : decode b_X14_declare 160 = .ok (.iload_n 3, 1) := by decide +kernel
theorem d_X14_declare_161 : decode b_X14_declare 161 = .ok (.ireturn, 1) := by decide +kernel
theorem d_X14_declareLocal_0 : decode b_X14_declareLocal 0 = .ok (.aload_n 0, 1) := by decide +kernel
theorem d_X14_declareLocal_1 : decode b_X14_declareLocal 1 = .ok (.getfield 349, 3) := by decide +kernel
theorem d_X14_declareLocal_4 : decode b_X14_declareLocal 4 = .ok (.bipush 100, 2) := by decide +kernel
theorem d_X14_declareLocal_6 : decode b_X14_declareLocal 6 = .ok (.if_icmp .ne 11, 3) := by decide +kernel
theorem d_X14_declareLocal_9 : decode b_X14_declareLocal 9 = .ok (.aload_n 0, 1) := by decide +kernel
theorem d_X14_declareLocal_10 : decode b_X14_declareLocal 10 = .ok (.iconst 4, 1) := by decide +kernel
theorem d_X14_declareLocal_11 : decode b_X14_declareLocal 11 = .ok (.iload_n 1, 1) := by decide +kernel
theorem d_X14_declareLocal_12 : decode b_X14_declareLocal 12 = .ok (.invokevirtual 304, 3) := by decide +kernel
theorem d_X14_declareLocal_15 : decode b_X14_declareLocal 15 = .ok (.iconst (-1), 1) := by decide +kernel
theorem d_X14_declareLocal_16 : decode b_X14_declareLocal 16 = .ok (.ireturn, 1) := by decide +kernel
theorem d_X14_declareLocal_17 : decode b_X14_declareLocal 17 = .ok (.aload_n 0, 1) := by decide +kernel
theorem d_X14_declareLocal_18 : decode b_X14_declareLocal 18 = .ok (.getfield 114, 3) := by decide +kernel
theorem d_X14_declareLocal_21 : decode b_X14_declareLocal 21 = .ok (.aload_n 0, 1) := by decide +kernel
theorem d_X14_declareLocal_22 : decode b_X14_declareLocal 22 = .ok (.getfield 349, 3) := by decide +kernel
theorem d_X14_declareLocal_25 : decode b_X14_declareLocal 25 = .ok (.iload_n 2, 1) := by decide +kernel
theorem d_X14_declareLocal_26 : decode b_X14_declareLocal 26 = .ok (.iastore, 1) := by decide +kernel
theorem d_X14_declareLocal_27 : decode b_X14_declareLocal 27 = .ok (.aload_n 0, 1) := by decide +kernel
theorem d_X14_declareLocal_28 : decode b_X14_declareLocal 28 = .ok (.getfield 117, 3) := by decide +kernel
theorem d_X14_declareLocal_31 : decode b_X14_declareLocal 31 = .ok (.aload_n 0, 1) := by decide +kernel
theorem d_X14_declareLocal_32 : decode b_X14_declareLocal 32 = .ok (.getfield 349, 3) := by decide +kernel
theorem d_X14_declareLocal_35 : decode b_X14_declareLocal 35 = .ok (.iconst (-1), 1) := by decide +kernel
theorem d_X14_declareLocal_36 : decode b_X14_declareLocal 36 = .ok (.iastore, 1) := by decide +kernel
theorem d_X14_declareLocal_37 : decode b_X14_declareLocal 37 = .ok (.aload_n 0, 1) := by decide +kernel
theorem d_X14_declareLocal_38 : decode b_X14_declareLocal 38 = .ok (.getfield 120, 3) := by decide +kernel
theorem d_X14_declareLocal_41 : decode b_X14_declareLocal 41 = .ok (.aload_n 0, 1) := by decide +kernel
theorem d_X14_declareLocal_42 : decode b_X14_declareLocal 42 = .ok (.getfield 349, 3) := by decide +kernel
theorem d_X14_declareLocal_45 : decode b_X14_declareLocal 45 = .ok (.iconst 0, 1) := by decide +kernel
theorem d_X14_declareLocal_46 : decode b_X14_declareLocal 46 = .ok (.bastore, 1) := by decide +kernel
theorem d_X14_declareLocal_47 : decode b_X14_declareLocal 47 = .ok (.aload_n 0, 1) := by decide +kernel
theorem d_X14_declareLocal_48 : decode b_X14_declareLocal 48 = .ok (.dup, 1) := by decide +kernel
theorem d_X14_declareLocal_49 : decode b_X14_declareLocal 49 = .ok (.getfield 349, 3) := by decide +kernel
theorem d_X14_declareLocal_52 : decode b_X14_declareLocal 52 = .ok (.iconst 1, 1) := by decide +kernel
theorem d_X14_declareLocal_53 : decode b_X14_declareLocal 53 = .ok (.iadd, 1) := by decide +kernel
theorem d_X14_declareLocal_54 : decode b_X14_declareLocal 54 = .ok (.putfield 349, 3) := by decide +kernel
theorem d_X14_declareLocal_57 : decode b_X14_declareLocal 57 = .ok (.aload_n 0, 1) := by decide +kernel
theorem d_X14_declareLocal_58 : decode b_X14_declareLocal 58 = .ok (.getfield 349, 3) := by decide +kernel
theorem d_X14_declareLocal_61 : decode b_X14_declareLocal 61 = .ok (.iconst 1, 1) := by decide +kernel
theorem d_X14_declareLocal_62 : decode b_X14_declareLocal 62 = .ok (.isub, 1) := by decide +kernel
theorem d_X14_declareLocal_63 : decode b_X14_declareLocal 63 = .ok (.ireturn, 1) := by decide +kernel
theorem d_X14_deeper_0 : decode b_X14_deeper 0 = .ok (.iload_n 1, 1) := by decide +kernel
theorem d_X14_deeper_1 : decode b_X14_deeper 1 = .ok (.bipush 25, 2) := by decide +kernel
theorem d_X14_deeper_3 : decode b_X14_deeper 3 = .ok (.if_icmp .ne 8, 3) := by decide +kernel
theorem d_X14_deeper_6 : decode b_X14_deeper 6 = .ok (.aload_n 0, 1) := by decide +kernel
theorem d_X14_deeper_7 : decode b_X14_deeper 7 = .ok (.invokevirtual 311, 3) := by decide +kernel
theorem d_X14_deeper_10 : decode b_X14_deeper 10 = .ok (.athrow, 1) := by decide +kernel
theorem d_X14_deeper_11 : decode b_X14_deeper 11 = .ok (.iload_n 1, 1) := by decide +kernel
theorem d_X14_deeper_12 : decode b_X14_deeper 12 = .ok (.iconst 1, 1) := by decide +kernel
theorem d_X14_deeper_13 : decode b_X14_deeper 13 = .ok (.iadd, 1) := by decide +kernel
theorem d_X14_deeper_14 : decode b_X14_deeper 14 = .ok (.ireturn, 1) := by decide +kernel
theorem d_X14_doStatement_0 : decode b_X14_doStatement 0 = .ok (.aload_n 0, 1) := by decide +kernel
theorem d_X14_doStatement_1 : decode b_X14_doStatement 1 = .ok (.dup, 1) := by decide +kernel
theorem d_X14_doStatement_2 : decode b_X14_doStatement 2 = .ok (.getfield 288, 3) := by decide +kernel
theorem d_X14_doStatement_5 : decode b_X14_doStatement 5 = .ok (.iconst 1, 1) := by decide +kernel
theorem d_X14_doStatement_6 : decode b_X14_doStatement 6 = .ok (.iadd, 1) := by decide +kernel
theorem d_X14_doStatement_7 : decode b_X14_doStatement 7 = .ok (.putfield 288, 3) := by decide +kernel
theorem d_X14_doStatement_10 : decode b_X14_doStatement 10 = .ok (.aload_n 0, 1) := by decide +kernel
theorem d_X14_doStatement_11 : decode b_X14_doStatement 11 = .ok (.getfield 315, 3) := by decide +kernel
theorem d_X14_doStatement_14 : decode b_X14_doStatement 14 = .ok (.istore_n 3, 1) := by decide +kernel
theorem d_X14_doStatement_15 : decode b_X14_doStatement 15 = .ok (.aload_n 0, 1) := by decide +kernel
theorem d_X14_doStatement_16 : decode b_X14_doStatement 16 = .ok (.iload_n 1, 1) := by decide +kernel
theorem d_X14_doStatement_17 : decode b_X14_doStatement 17 = .ok (.iload_n 2, 1) := by decide +kernel
theorem d_X14_doStatement_18 : decode b_X14_doStatement 18 = .ok (.iconst (-1), 1) := by decide +kernel
theorem d_X14_doStatement_19 : decode b_X14_doStatement 19 = .ok (.invokevirtual 555, 3) := by decide +kernel
theorem d_X14_doStatement_22 : decode b_X14_doStatement 22 = .ok (.aload_n 0, 1) := by decide +kernel
theorem d_X14_doStatement_23 : decode b_X14_doStatement 23 = .ok (.getfield 558, 3) := by decide +kernel
theorem d_X14_doStatement_26 : decode b_X14_doStatement 26 = .ok (.istore 4, 2) := by decide +kernel
theorem d_X14_doStatement_28 : decode b_X14_doStatement 28 = .ok (.aload_n 0, 1) := by decide +kernel
theorem d_X14_doStatement_29 : decode b_X14_doStatement 29 = .ok (.aload_n 0, 1) := by decide +kernel
theorem d_X14_doStatement_30 : decode b_X14_doStatement 30 = .ok (.getfield 561, 3) := by decide +kernel
theorem d_X14_doStatement_33 : decode b_X14_doStatement 33 = .ok (.putfield 558, 3) := by decide +kernel
theorem d_X14_doStatement_36 : decode b_X14_doStatement 36 = .ok (.aload_n 0, 1) := by decide +kernel
theorem d_X14_doStatement_37 : decode b_X14_doStatement 37 = .ok (.bipush 11, 2) := by decide +kernel
theorem d_X14_doStatement_39 : decode b_X14_doStatement 39 = .ok (.invokevirtual 552, 3) := by decide +kernel
theorem d_X14_doStatement_42 : decode b_X14_doStatement 42 = .ok (.ifCond .ne 8, 3) := by decide +kernel
theorem d_X14_doStatement_45 : decode b_X14_doStatement 45 = .ok (.aload_n 0, 1) := by decide +kernel
theorem d_X14_doStatement_46 : decode b_X14_doStatement 46 = .ok (.invokevirtual 311, 3) := by decide +kernel
theorem d_X14_doStatement_49 : decode b_X14_doStatement 49 = .ok (.athrow, 1) := by decide +kernel
theorem d_X14_doStatement_50 : decode b_X14_doStatement 50 = .ok (.aload_n 0, 1) := by decide +kernel
theorem d_X14_doStatement_51 : decode b_X14_doStatement 51 = .ok (.getfield 288, 3) := by decide +kernel
theorem d_X14_doStatement_54 : decode b_X14_doStatement 54 = .ok (.istore 5, 2) := by decide +kernel
theorem d_X14_doStatement_56 : decode b_X14_doStatement 56 = .ok (.aload_n 0, 1) := by decide +kernel
theorem d_X14_doStatement_57 : decode b_X14_doStatement 57 = .ok (.dup, 1) := by decide +kernel
theorem d_X14_doStatement_58 : decode b_X14_doStatement 58 = .ok (.getfield 288, 3) := by decide +kernel
theorem d_X14_doStatement_61 : decode b_X14_doStatement 61 = .ok (.iconst 1, 1) := by decide +kernel
theorem d_X14_doStatement_62 : decode b_X14_doStatement 62 = .ok (.iadd, 1) := by decide +kernel
theorem d_X14_doStatement_63 : decode b_X14_doStatement 63 = .ok (.putfield 288, 3) := by decide +kernel
theorem d_X14_doStatement_66 : decode b_X14_doStatement 66 = .ok (.aload_n 0, 1) := by decide +kernel
theorem d_X14_doStatement_67 : decode b_X14_doStatement 67 = .ok (.iload 5, 2) := by decide +kernel
theorem d_X14_doStatement_69 : decode b_X14_doStatement 69 = .ok (.invokevirtual 546, 3) := by decide +kernel
theorem d_X14_doStatement_72 : decode b_X14_doStatement 72 = .ok (.aload_n 0, 1) := by decide +kernel
theorem d_X14_doStatement_73 : decode b_X14_doStatement 73 = .ok (.bipush 27, 2) := by decide +kernel
theorem d_X14_doStatement_75 : decode b_X14_doStatement 75 = .ok (.invokevirtual 497, 3) := by decide +kernel
theorem d_X14_doStatement_78 : decode b_X14_doStatement 78 = .ok (.aload_n 0, 1) := by decide +kernel
theorem d_X14_doStatement_79 : decode b_X14_doStatement 79 = .ok (.bipush 17, 2) := by decide +kernel
theorem d_X14_doStatement_81 : decode b_X14_doStatement 81 = .ok (.iload_n 3, 1) := by decide +kernel
theorem d_X14_doStatement_82 : decode b_X14_doStatement 82 = .ok (.invokevirtual 322, 3) := by decide +kernel
theorem d_X14_doStatement_85 : decode b_X14_doStatement 85 = .ok (.aload_n 0, 1) := by decide +kernel
theorem d_X14_doStatement_86 : decode b_X14_doStatement 86 = .ok (.iload 4, 2) := by decide +kernel
theorem d_X14_doStatement_88 : decode b_X14_doStatement 88 = .ok (.aload_n 0, 1) := by decide +kernel
theorem d_X14_doStatement_89 : decode b_X14_doStatement 89 = .ok (.getfield 315, 3) := by decide +kernel
theorem d_X14_doStatement_92 : decode b_X14_doStatement 92 = .ok (.invokevirtual 564, 3) := by decide +kernel
theorem d_X14_doStatement_95 : decode b_X14_doStatement 95 = .ok (.return_, 1) := by decide +kernel
theorem d_X14_emit_0 : decode b_X14_emit 0 = .ok (.aload_n 0, 1) := by decide +kernel
theorem d_X14_emit_1 : decode b_X14_emit 1 = .ok (.getfield 753, 3) := by decide +kernel
theorem d_X14_emit_4 : decode b_X14_emit 4 = .ok (.sipush 4096, 3) := by decide +kernel
theorem d_X14_emit_7 : decode b_X14_emit 7 = .ok (.if_icmp .ne 18, 3) := by decide +kernel
theorem d_X14_emit_10 : decode b_X14_emit 10 = .ok (.aload_n 0, 1) := by decide +kernel
theorem d_X14_emit_11 : decode b_X14_emit 11 = .ok (.getfield 774, 3) := by decide +kernel
theorem d_X14_emit_14 : decode b_X14_emit 14 = .ok (.ifCond .ge 10, 3) := by decide +kernel
theorem d_X14_emit_17 : decode b_X14_emit 17 = .ok (.aload_n 0, 1) := by decide +kernel
theorem d_X14_emit_18 : decode b_X14_emit 18 = .ok (.bipush 6, 2) := by decide +kernel
theorem d_X14_emit_20 : decode b_X14_emit 20 = .ok (.iload_n 2, 1) := by decide +kernel
theorem d_X14_emit_21 : decode b_X14_emit 21 = .ok (.invokevirtual 808, 3) := by decide +kernel
theorem d_X14_emit_24 : decode b_X14_emit 24 = .ok (.return_, 1) := by decide +kernel
theorem d_X14_emit_25 : decode b_X14_emit 25 = .ok (.aload_n 0, 1) := by decide +kernel
theorem d_X14_emit_26 : decode b_X14_emit 26 = .ok (.getfield 191, 3) := by decide +kernel
theorem d_X14_emit_29 : decode b_X14_emit 29 = .ok (.aload_n 0, 1) := by decide +kernel
theorem d_X14_emit_30 : decode b_X14_emit 30 = .ok (.getfield 753, 3) := by decide +kernel
theorem d_X14_emit_33 : decode b_X14_emit 33 = .ok (.iload_n 1, 1) := by decide +kernel
theorem d_X14_emit_34 : decode b_X14_emit 34 = .ok (.i2b, 1) := by decide +kernel
theorem d_X14_emit_35 : decode b_X14_emit 35 = .ok (.bastore, 1) := by decide +kernel
theorem d_X14_emit_36 : decode b_X14_emit 36 = .ok (.aload_n 0, 1) := by decide +kernel
theorem d_X14_emit_37 : decode b_X14_emit 37 = .ok (.dup, 1) := by decide +kernel
theorem d_X14_emit_38 : decode b_X14_emit 38 = .ok (.getfield 753, 3) := by decide +kernel
theorem d_X14_emit_41 : decode b_X14_emit 41 = .ok (.iconst 1, 1) := by decide +kernel
theorem d_X14_emit_42 : decode b_X14_emit 42 = .ok (.iadd, 1) := by decide +kernel
theorem d_X14_emit_43 : decode b_X14_emit 43 = .ok (.putfield 753, 3) := by decide +kernel
theorem d_X14_emit_46 : decode b_X14_emit 46 = .ok (.return_, 1) := by decide +kernel
theorem d_X14_end_0 : decode b_X14_end 0 = .ok (.iload_n 1, 1) := by decide +kernel
theorem d_X14_end_1 : decode b_X14_end 1 = .ok (.ifCond .lt 11, 3) := by decide +kernel
theorem d_X14_end_4 : decode b_X14_end 4 = .ok (.iload_n 1, 1) := by decide +kernel
theorem d_X14_end_5 : decode b_X14_end 5 = .ok (.aload_n 0, 1) := by decide +kernel
theorem d_X14_end_6 : decode b_X14_end 6 = .ok (.getfield 197, 3) := by decide +kernel
theorem d_X14_end_9 : decode b_X14_end 9 = .ok (.if_icmp .le 5, 3) := by decide +kernel
theorem d_X14_end_12 : decode b_X14_end 12 = .ok (.iconst (-1), 1) := by decide +kernel
theorem d_X14_end_13 : decode b_X14_end 13 = .ok (.ireturn, 1) := by decide +kernel
theorem d_X14_end_14 : decode b_X14_end 14 = .ok (.aload_n 0, 1) := by decide +kernel
theorem d_X14_end_15 : decode b_X14_end 15 = .ok (.iload_n 1, 1) := by decide +kernel
theorem d_X14_end_16 : decode b_X14_end 16 = .ok (.putfield 197, 3) := by decide +kernel
theorem d_X14_end_19 : decode b_X14_end 19 = .ok (.iload_n 1, 1) := by decide +kernel
theorem d_X14_end_20 : decode b_X14_end 20 = .ok (.ireturn, 1) := by decide +kernel
theorem d_X14_ends_0 : decode b_X14_ends 0 = .ok (.aload_n 0, 1) := by decide +kernel
theorem d_X14_ends_1 : decode b_X14_ends 1 = .ok (.iload_n 1, 1) := by decide +kernel
theorem d_X14_ends_2 : decode b_X14_ends 2 = .ok (.putfield 774, 3) := by decide +kernel
theorem d_X14_ends_5 : decode b_X14_ends 5 = .ok (.aload_n 0, 1) := by decide +kernel
theorem d_X14_ends_6 : decode b_X14_ends 6 = .ok (.iload_n 2, 1) := by decide +kernel
theorem d_X14_ends_7 : decode b_X14_ends 7 = .ok (.putfield 762, 3) := by decide +kernel
theorem d_X14_ends_10 : decode b_X14_ends 10 = .ok (.aload_n 0, 1) := by decide +kernel
theorem d_X14_ends_11 : decode b_X14_ends 11 = .ok (.iload_n 3, 1) := by decide +kernel
theorem d_X14_ends_12 : decode b_X14_ends 12 = .ok (.putfield 765, 3) := by decide +kernel
theorem d_X14_ends_15 : decode b_X14_ends 15 = .ok (.return_, 1) := by decide +kernel
theorem d_X14_enter_0 : decode b_X14_enter 0 = .ok (.aload_n 0, 1) := by decide +kernel
theorem d_X14_enter_1 : decode b_X14_enter 1 = .ok (.getfield 756, 3) := by decide +kernel
theorem d_X14_enter_4 : decode b_X14_enter 4 = .ok (.aload_n 0, 1) := by decide +kernel
theorem d_X14_enter_5 : decode b_X14_enter 5 = .ok (.getfield 747, 3) := by decide +kernel
theorem d_X14_enter_8 : decode b_X14_enter 8 = .ok (.if_icmp .ne 12, 3) := by decide +kernel
theorem d_X14_enter_11 : decode b_X14_enter 11 = .ok (.aload_n 0, 1) := by decide +kernel
theorem d_X14_enter_12 : decode b_X14_enter 12 = .ok (.iconst 4, 1) := by decide +kernel
theorem d_X14_enter_13 : decode b_X14_enter 13 = .ok (.iload_n 3, 1) := by decide +kernel
theorem d_X14_enter_14 : decode b_X14_enter 14 = .ok (.iload 4, 2) := by decide +kernel
theorem d_X14_enter_16 : decode b_X14_enter 16 = .ok (.invokevirtual 784, 3) := by decide +kernel
theorem d_X14_enter_19 : decode b_X14_enter 19 = .ok (.return_, 1) := by decide +kernel
theorem d_X14_enter_20 : decode b_X14_enter 20 = .ok (.aload_n 0, 1) := by decide +kernel
theorem d_X14_enter_21 : decode b_X14_enter 21 = .ok (.dup, 1) := by decide +kernel
theorem d_X14_enter_22 : decode b_X14_enter 22 = .ok (.getfield 756, 3) := by decide +kernel
theorem d_X14_enter_25 : decode b_X14_enter 25 = .ok (.iconst 1, 1) := by decide +kernel
theorem d_X14_enter_26 : decode b_X14_enter 26 = .ok (.iadd, 1) := by decide +kernel
theorem d_X14_enter_27 : decode b_X14_enter 27 = .ok (.putfield 756, 3) := by decide +kernel
theorem d_X14_enter_30 : decode b_X14_enter 30 = .ok (.aload_n 0, 1) := by decide +kernel
theorem d_X14_enter_31 : decode b_X14_enter 31 = .ok (.getfield 771, 3) := by decide +kernel
theorem d_X14_enter_34 : decode b_X14_enter 34 = .ok (.ifCond .ne 8, 3) := by decide +kernel
theorem d_X14_enter_37 : decode b_X14_enter 37 = .ok (.ldc 168, 2) := by decide +kernel
theorem d_X14_enter_39 : decode b_X14_enter 39 = .ok (.goto 14, 3) := by decide +kernel
theorem d_X14_enter_42 : decode b_X14_enter 42 = .ok (.aload_n 0, 1) := by decide +kernel
theorem d_X14_enter_43 : decode b_X14_enter 43 = .ok (.getfield 179, 3) := by decide +kernel
theorem d_X14_enter_46 : decode b_X14_enter 46 = .ok (.aload_n 0, 1) := by decide +kernel
theorem d_X14_enter_47 : decode b_X14_enter 47 = .ok (.getfield 771, 3) := by decide +kernel
theorem d_X14_enter_50 : decode b_X14_enter 50 = .ok (.iconst 1, 1) := by decide +kernel
theorem d_X14_enter_51 : decode b_X14_enter 51 = .ok (.isub, 1) := by decide +kernel
theorem d_X14_enter_52 : decode b_X14_enter 52 = .ok (.iaload, 1) := by decide +kernel
theorem d_X14_enter_53 : decode b_X14_enter 53 = .ok (.bipush 32, 2) := by decide +kernel
theorem d_X14_enter_55 : decode b_X14_enter 55 = .ok (.isub, 1) := by decide +kernel
theorem d_X14_enter_56 : decode b_X14_enter 56 = .ok (.aload_n 0, 1) := by decide +kernel
theorem d_X14_enter_57 : decode b_X14_enter 57 = .ok (.getfield 111, 3) := by decide +kernel
theorem d_X14_enter_60 : decode b_X14_enter 60 = .ok (.iload_n 1, 1) := by decide +kernel
theorem d_X14_enter_61 : decode b_X14_enter 61 = .ok (.iaload, 1) := by decide +kernel
theorem d_X14_enter_62 : decode b_X14_enter 62 = .ok (.isub, 1) := by decide +kernel
theorem d_X14_enter_63 : decode b_X14_enter 63 = .ok (.istore 5, 2) := by decide +kernel
theorem d_X14_enter_65 : decode b_X14_enter 65 = .ok (.iload 5, 2) := by decide +kernel
theorem d_X14_enter_67 : decode b_X14_enter 67 = .ok (.sipush 24576, 3) := by decide +kernel
theorem d_X14_enter_70 : decode b_X14_enter 70 = .ok (.if_icmp .ge 12, 3) := by decide +kernel
theorem d_X14_enter_73 : decode b_X14_enter 73 = .ok (.aload_n 0, 1) := by decide +kernel
theorem d_X14_enter_74 : decode b_X14_enter 74 = .ok (.iconst 3, 1) := by decide +kernel
theorem d_X14_enter_75 : decode b_X14_enter 75 = .ok (.iload_n 3, 1) := by decide +kernel
theorem d_X14_enter_76 : decode b_X14_enter 76 = .ok (.iload 4, 2) := by decide +kernel
theorem d_X14_enter_78 : decode b_X14_enter 78 = .ok (.invokevirtual 784, 3) := by decide +kernel
theorem d_X14_enter_81 : decode b_X14_enter 81 = .ok (.return_, 1) := by decide +kernel
theorem d_X14_enter_82 : decode b_X14_enter 82 = .ok (.aload_n 0, 1) := by decide +kernel
theorem d_X14_enter_83 : decode b_X14_enter 83 = .ok (.getfield 179, 3) := by decide +kernel
theorem d_X14_enter_86 : decode b_X14_enter 86 = .ok (.aload_n 0, 1) := by decide +kernel
theorem d_X14_enter_87 : decode b_X14_enter 87 = .ok (.getfield 771, 3) := by decide +kernel
theorem d_X14_enter_90 : decode b_X14_enter 90 = .ok (.iload 5, 2) := by decide +kernel
theorem d_X14_enter_92 : decode b_X14_enter 92 = .ok (.iastore, 1) := by decide +kernel
theorem d_X14_enter_93 : decode b_X14_enter 93 = .ok (.aload_n 0, 1) := by decide +kernel
theorem d_X14_enter_94 : decode b_X14_enter 94 = .ok (.getfield 182, 3) := by decide +kernel
theorem d_X14_enter_97 : decode b_X14_enter 97 = .ok (.aload_n 0, 1) := by decide +kernel
theorem d_X14_enter_98 : decode b_X14_enter 98 = .ok (.getfield 771, 3) := by decide +kernel
theorem d_X14_enter_101 : decode b_X14_enter 101 = .ok (.iload_n 1, 1) := by decide +kernel
theorem d_X14_enter_102 : decode b_X14_enter 102 = .ok (.iastore, 1) := by decide +kernel
theorem d_X14_enter_103 : decode b_X14_enter 103 = .ok (.aload_n 0, 1) := by decide +kernel
theorem d_X14_enter_104 : decode b_X14_enter 104 = .ok (.getfield 185, 3) := by decide +kernel
theorem d_X14_enter_107 : decode b_X14_enter 107 = .ok (.aload_n 0, 1) := by decide +kernel
theorem d_X14_enter_108 : decode b_X14_enter 108 = .ok (.getfield 771, 3) := by decide +kernel
theorem d_X14_enter_111 : decode b_X14_enter 111 = .ok (.iload_n 2, 1) := by decide +kernel
theorem d_X14_enter_112 : decode b_X14_enter 112 = .ok (.iastore, 1) := by decide +kernel
theorem d_X14_enter_113 : decode b_X14_enter 113 = .ok (.aload_n 0, 1) := by decide +kernel
theorem d_X14_enter_114 : decode b_X14_enter 114 = .ok (.dup, 1) := by decide +kernel
theorem d_X14_enter_115 : decode b_X14_enter 115 = .ok (.getfield 771, 3) := by decide +kernel
theorem d_X14_enter_118 : decode b_X14_enter 118 = .ok (.iconst 1, 1) := by decide +kernel
theorem d_X14_enter_119 : decode b_X14_enter 119 = .ok (.iadd, 1) := by decide +kernel
theorem d_X14_enter_120 : decode b_X14_enter 120 = .ok (.putfield 771, 3) := by decide +kernel
theorem d_X14_enter_123 : decode b_X14_enter 123 = .ok (.aload_n 0, 1) := by decide +kernel
theorem d_X14_enter_124 : decode b_X14_enter 124 = .ok (.iload_n 1, 1) := by decide +kernel
theorem d_X14_enter_125 : decode b_X14_enter 125 = .ok (.invokevirtual 787, 3) := by decide +kernel
theorem d_X14_enter_128 : decode b_X14_enter 128 = .ok (.istore 6, 2) := by decide +kernel
theorem d_X14_enter_130 : decode b_X14_enter 130 = .ok (.iconst 0, 1) := by decide +kernel
theorem d_X14_enter_131 : decode b_X14_enter 131 = .ok (.istore 7, 2) := by decide +kernel
theorem d_X14_enter_133 : decode b_X14_enter 133 = .ok (.iload 7, 2) := by decide +kernel
theorem d_X14_enter_135 : decode b_X14_enter 135 = .ok (.aload_n 0, 1) := by decide +kernel
theorem d_X14_enter_136 : decode b_X14_enter 136 = .ok (.getfield 105, 3) := by decide +kernel
theorem d_X14_enter_139 : decode b_X14_enter 139 = .ok (.iload_n 1, 1) := by decide +kernel
theorem d_X14_enter_140 : decode b_X14_enter 140 = .ok (.iaload, 1) := by decide +kernel
theorem d_X14_enter_141 : decode b_X14_enter 141 = .ok (.if_icmp .ge 27, 3) := by decide +kernel
theorem d_X14_enter_144 : decode b_X14_enter 144 = .ok (.aload_n 0, 1) := by decide +kernel
theorem d_X14_enter_145 : decode b_X14_enter 145 = .ok (.getfield 176, 3) := by decide +kernel
theorem d_X14_enter_148 : decode b_X14_enter 148 = .ok (.aload_n 0, 1) := by decide +kernel
theorem d_X14_enter_149 : decode b_X14_enter 149 = .ok (.getfield 771, 3) := by decide +kernel
theorem d_X14_enter_152 : decode b_X14_enter 152 = .ok (.iconst 1, 1) := by decide +kernel
theorem d_X14_enter_153 : decode b_X14_enter 153 = .ok (.isub, 1) := by decide +kernel
theorem d_X14_enter_154 : decode b_X14_enter 154 = .ok (.bipush 100, 2) := by decide +kernel
theorem d_X14_enter_156 : decode b_X14_enter 156 = .ok (.imul, 1) := by decide +kernel
theorem d_X14_enter_157 : decode b_X14_enter 157 = .ok (.iload 7, 2) := by decide +kernel
theorem d_X14_enter_159 : decode b_X14_enter 159 = .ok (.iadd, 1) := by decide +kernel
theorem d_X14_enter_160 : decode b_X14_enter 160 = .ok (.iconst 0, 1) := by decide +kernel
theorem d_X14_enter_161 : decode b_X14_enter 161 = .ok (.iastore, 1) := by decide +kernel
theorem d_X14_enter_162 : decode b_X14_enter 162 = .ok (.iinc 7 1, 3) := by decide +kernel
theorem d_X14_enter_165 : decode b_X14_enter 165 = .ok (.goto (-32), 3) := by decide +kernel
theorem d_X14_enter_168 : decode b_X14_enter 168 = .ok (.aload_n 0, 1) := by decide +kernel
theorem d_X14_enter_169 : decode b_X14_enter 169 = .ok (.dup, 1) := by decide +kernel
theorem d_X14_enter_170 : decode b_X14_enter 170 = .ok (.getfield 768, 3) := by decide +kernel
theorem d_X14_enter_173 : decode b_X14_enter 173 = .ok (.iload 6, 2) := by decide +kernel
theorem d_X14_enter_175 : decode b_X14_enter 175 = .ok (.isub, 1) := by decide +kernel
theorem d_X14_enter_176 : decode b_X14_enter 176 = .ok (.putfield 768, 3) := by decide +kernel
theorem d_X14_enter_179 : decode b_X14_enter 179 = .ok (.iconst 0, 1) := by decide +kernel
theorem d_X14_enter_180 : decode b_X14_enter 180 = .ok (.istore 7, 2) := by decide +kernel
theorem d_X14_enter_182 : decode b_X14_enter 182 = .ok (.iload 7, 2) := by decide +kernel
theorem d_X14_enter_184 : decode b_X14_enter 184 = .ok (.iload 6, 2) := by decide +kernel
theorem d_X14_enter_186 : decode b_X14_enter 186 = .ok (.if_icmp .ge 27, 3) := by decide +kernel
theorem d_X14_enter_189 : decode b_X14_enter 189 = .ok (.aload_n 0, 1) := by decide +kernel
theorem d_X14_enter_190 : decode b_X14_enter 190 = .ok (.iload 7, 2) := by decide +kernel
theorem d_X14_enter_192 : decode b_X14_enter 192 = .ok (.aload_n 0, 1) := by decide +kernel
theorem d_X14_enter_193 : decode b_X14_enter 193 = .ok (.getfield 173, 3) := by decide +kernel
theorem d_X14_enter_196 : decode b_X14_enter 196 = .ok (.aload_n 0, 1) := by decide +kernel
theorem d_X14_enter_197 : decode b_X14_enter 197 = .ok (.getfield 768, 3) := by decide +kernel
theorem d_X14_enter_200 : decode b_X14_enter 200 = .ok (.iload 7, 2) := by decide +kernel
theorem d_X14_enter_202 : decode b_X14_enter 202 = .ok (.iadd, 1) := by decide +kernel
theorem d_X14_enter_203 : decode b_X14_enter 203 = .ok (.iaload, 1) := by decide +kernel
theorem d_X14_enter_204 : decode b_X14_enter 204 = .ok (.invokevirtual 790, 3) := by decide +kernel
theorem d_X14_enter_207 : decode b_X14_enter 207 = .ok (.iinc 7 1, 3) := by decide +kernel
theorem d_X14_enter_210 : decode b_X14_enter 210 = .ok (.goto (-28), 3) := by decide +kernel
theorem d_X14_enter_213 : decode b_X14_enter 213 = .ok (.return_, 1) := by decide +kernel
theorem d_X14_entity_0 : decode b_X14_entity 0 = .ok (.aload_n 0, 1) := by decide +kernel
theorem d_X14_entity_1 : decode b_X14_entity 1 = .ok (.getfield 86, 3) := by decide +kernel
theorem d_X14_entity_4 : decode b_X14_entity 4 = .ok (.aload_n 0, 1) := by decide +kernel
theorem d_X14_entity_5 : decode b_X14_entity 5 = .ok (.getfield 327, 3) := by decide +kernel
theorem d_X14_entity_8 : decode b_X14_entity 8 = .ok (.iaload, 1) := by decide +kernel
theorem d_X14_entity_9 : decode b_X14_entity 9 = .ok (.istore_n 2, 1) := by decide +kernel
theorem d_X14_entity_10 : decode b_X14_entity 10 = .ok (.iload_n 2, 1) := by decide +kernel
theorem d_X14_entity_11 : decode b_X14_entity 11 = .ok (.aload_n 0, 1) := by decide +kernel
theorem d_X14_entity_12 : decode b_X14_entity 12 = .ok (.getfield 330, 3) := by decide +kernel
theorem d_X14_entity_15 : decode b_X14_entity 15 = .ok (.if_icmp .ge 20, 3) := by decide +kernel
theorem d_X14_entity_18 : decode b_X14_entity 18 = .ok (.aload_n 0, 1) := by decide +kernel
theorem d_X14_entity_19 : decode b_X14_entity 19 = .ok (.iload_n 2, 1) := by decide +kernel
theorem d_X14_entity_20 : decode b_X14_entity 20 = .ok (.iload_n 1, 1) := by decide +kernel
theorem d_X14_entity_21 : decode b_X14_entity 21 = .ok (.invokevirtual 333, 3) := by decide +kernel
theorem d_X14_entity_24 : decode b_X14_entity 24 = .ok (.ifCond .eq 5, 3) := by decide +kernel
theorem d_X14_entity_27 : decode b_X14_entity 27 = .ok (.iload_n 2, 1) := by decide +kernel
theorem d_X14_entity_28 : decode b_X14_entity 28 = .ok (.ireturn, 1) := by decide +kernel
theorem d_X14_entity_29 : decode b_X14_entity 29 = .ok (.iinc 2 1, 3) := by decide +kernel
theorem d_X14_entity_32 : decode b_X14_entity 32 = .ok (.goto (-22), 3) := by decide +kernel
theorem d_X14_entity_35 : decode b_X14_entity 35 = .ok (.iconst (-1), 1) := by decide +kernel
theorem d_X14_entity_36 : decode b_X14_entity 36 = .ok (.ireturn, 1) := by decide +kernel
theorem d_X14_expect_0 : decode b_X14_expect 0 = .ok (.aload_n 0, 1) := by decide +kernel
theorem d_X14_expect_1 : decode b_X14_expect 1 = .ok (.iload_n 1, 1) := by decide +kernel
theorem d_X14_expect_2 : decode b_X14_expect 2 = .ok (.invokevirtual 308, 3) := by decide +kernel
theorem d_X14_expect_5 : decode b_X14_expect 5 = .ok (.ifCond .ne 8, 3) := by decide +kernel
theorem d_X14_expect_8 : decode b_X14_expect 8 = .ok (.aload_n 0, 1) := by decide +kernel
theorem d_X14_expect_9 : decode b_X14_expect 9 = .ok (.invokevirtual 311, 3) := by decide +kernel
theorem d_X14_expect_12 : decode b_X14_expect 12 = .ok (.athrow, 1) := by decide +kernel
theorem d_X14_expect_13 : decode b_X14_expect 13 = .ok (.aload_n 0, 1) := by decide +kernel
theorem d_X14_expect_14 : decode b_X14_expect 14 = .ok (.dup, 1) := by decide +kernel
theorem d_X14_expect_15 : decode b_X14_expect 15 = .ok (.getfield 288, 3) := by decide +kernel
theorem d_X14_expect_18 : decode b_X14_expect 18 = .ok (.iconst 1, 1) := by decide +kernel
theorem d_X14_expect_19 : decode b_X14_expect 19 = .ok (.iadd, 1) := by decide +kernel
theorem d_X14_expect_20 : decode b_X14_expect 20 = .ok (.putfield 288, 3) := by decide +kernel
theorem d_X14_expect_23 : decode b_X14_expect 23 = .ok (.return_, 1) := by decide +kernel
theorem d_X14_expression_0 : decode b_X14_expression 0 = .ok (.aload_n 0, 1) := by decide +kernel
theorem d_X14_expression_1 : decode b_X14_expression 1 = .ok (.iload_n 1, 1) := by decide +kernel
theorem d_X14_expression_2 : decode b_X14_expression 2 = .ok (.invokevirtual 379, 3) := by decide +kernel
theorem d_X14_expression_5 : decode b_X14_expression 5 = .ok (.astore_n 2, 1) := by decide +kernel
theorem d_X14_expression_6 : decode b_X14_expression 6 = .ok (.aload_n 0, 1) := by decide +kernel
theorem d_X14_expression_7 : decode b_X14_expression 7 = .ok (.invokevirtual 383, 3) := by decide +kernel
theorem d_X14_expression_10 : decode b_X14_expression 10 = .ok (.istore_n 3, 1) := by decide +kernel
theorem d_X14_expression_11 : decode b_X14_expression 11 = .ok (.iload_n 3, 1) := by decide +kernel
theorem d_X14_expression_12 : decode b_X14_expression 12 = .ok (.invokestatic 386, 3) := by decide +kernel
theorem d_X14_expression_15 : decode b_X14_expression 15 = .ok (.ifCond .ne 5, 3) := by decide +kernel
theorem d_X14_expression_18 : decode b_X14_expression 18 = .ok (.aload_n 2, 1) := by decide +kernel
theorem d_X14_expression_19 : decode b_X14_expression 19 = .ok (.areturn, 1) := by decide +kernel
theorem d_X14_expression_20 : decode b_X14_expression 20 = .ok (.aload_n 0, 1) := by decide +kernel
theorem d_X14_expression_21 : decode b_X14_expression 21 = .ok (.getfield 288, 3) := by decide +kernel
theorem d_X14_expression_24 : decode b_X14_expression 24 = .ok (.istore 4, 2) := by decide +kernel
theorem d_X14_expression_26 : decode b_X14_expression 26 = .ok (.aload_n 0, 1) := by decide +kernel
theorem d_X14_expression_27 : decode b_X14_expression 27 = .ok (.iload_n 1, 1) := by decide +kernel
theorem d_X14_expression_28 : decode b_X14_expression 28 = .ok (.invokevirtual 389, 3) := by decide +kernel
theorem d_X14_expression_31 : decode b_X14_expression 31 = .ok (.istore 5, 2) := by decide +kernel
theorem d_X14_expression_33 : decode b_X14_expression 33 = .ok (.aload_n 0, 1) := by decide +kernel
theorem d_X14_expression_34 : decode b_X14_expression 34 = .ok (.dup, 1) := by decide +kernel
theorem d_X14_expression_35 : decode b_X14_expression 35 = .ok (.getfield 288, 3) := by decide +kernel
theorem d_X14_expression_38 : decode b_X14_expression 38 = .ok (.iconst 1, 1) := by decide +kernel
theorem d_X14_expression_39 : decode b_X14_expression 39 = .ok (.iadd, 1) := by decide +kernel
theorem d_X14_expression_40 : decode b_X14_expression 40 = .ok (.putfield 288, 3) := by decide +kernel
theorem d_X14_expression_43 : decode b_X14_expression 43 = .ok (.aload_n 2, 1) := by decide +kernel
theorem d_X14_expression_44 : decode b_X14_expression 44 = .ok (.getfield 361, 3) := by decide +kernel
theorem d_X14_expression_47 : decode b_X14_expression 47 = .ok (.ifCond .eq 7, 3) := by decide +kernel
theorem d_X14_expression_50 : decode b_X14_expression 50 = .ok (.iconst 1, 1) := by decide +kernel
theorem d_X14_expression_51 : decode b_X14_expression 51 = .ok (.goto 4, 3) := by decide +kernel
theorem d_X14_expression_54 : decode b_X14_expression 54 = .ok (.iconst 0, 1) := by decide +kernel
theorem d_X14_expression_55 : decode b_X14_expression 55 = .ok (.istore 6, 2) := by decide +kernel
theorem d_X14_expression_57 : decode b_X14_expression 57 = .ok (.aload_n 2, 1) := by decide +kernel
theorem d_X14_expression_58 : decode b_X14_expression 58 = .ok (.getfield 361, 3) := by decide +kernel
theorem d_X14_expression_61 : decode b_X14_expression 61 = .ok (.iconst 2, 1) := by decide +kernel
theorem d_X14_expression_62 : decode b_X14_expression 62 = .ok (.if_icmp .lt 7, 3) := by decide +kernel
theorem d_X14_expression_65 : decode b_X14_expression 65 = .ok (.iconst 1, 1) := by decide +kernel
theorem d_X14_expression_66 : decode b_X14_expression 66 = .ok (.goto 4, 3) := by decide +kernel
theorem d_X14_expression_69 : decode b_X14_expression 69 = .ok (.iconst 0, 1) := by decide +kernel
theorem d_X14_expression_70 : decode b_X14_expression 70 = .ok (.istore 7, 2) := by decide +kernel
theorem d_X14_expression_72 : decode b_X14_expression 72 = .ok (.aload_n 2, 1) := by decide +kernel
theorem d_X14_expression_73 : decode b_X14_expression 73 = .ok (.getfield 361, 3) := by decide +kernel
theorem d_X14_expression_76 : decode b_X14_expression 76 = .ok (.iconst 2, 1) := by decide +kernel
theorem d_X14_expression_77 : decode b_X14_expression 77 = .ok (.if_icmp .ne 12, 3) := by decide +kernel
theorem d_X14_expression_80 : decode b_X14_expression 80 = .ok (.aload_n 0, 1) := by decide +kernel
theorem d_X14_expression_81 : decode b_X14_expression 81 = .ok (.iconst 1, 1) := by decide +kernel
theorem d_X14_expression_82 : decode b_X14_expression 82 = .ok (.aload_n 2, 1) := by decide +kernel
theorem d_X14_expression_83 : decode b_X14_expression 83 = .ok (.getfield 364, 3) := by decide +kernel
theorem d_X14_expression_86 : decode b_X14_expression 86 = .ok (.invokevirtual 322, 3) := by decide +kernel
theorem d_X14_expression_89 : decode b_X14_expression 89 = .ok (.iload_n 3, 1) := by decide +kernel
theorem d_X14_expression_90 : decode b_X14_expression 90 = .ok (.invokestatic 392, 3) := by decide +kernel
theorem d_X14_expression_93 : decode b_X14_expression 93 = .ok (.istore 8, 2) := by decide +kernel
theorem d_X14_expression_95 : decode b_X14_expression 95 = .ok (.iload 8, 2) := by decide +kernel
theorem d_X14_expression_97 : decode b_X14_expression 97 = .ok (.bipush 30, 2) := by decide +kernel
theorem d_X14_expression_99 : decode b_X14_expression 99 = .ok (.if_icmp .eq 26, 3) := by decide +kernel
theorem d_X14_expression_102 : decode b_X14_expression 102 = .ok (.iload 7, 2) := by decide +kernel
theorem d_X14_expression_104 : decode b_X14_expression 104 = .ok (.ifCond .eq 21, 3) := by decide +kernel
theorem d_X14_expression_107 : decode b_X14_expression 107 = .ok (.aload_n 0, 1) := by decide +kernel
theorem d_X14_expression_108 : decode b_X14_expression 108 = .ok (.bipush 9, 2) := by decide +kernel
theorem d_X14_expression_110 : decode b_X14_expression 110 = .ok (.invokevirtual 318, 3) := by decide +kernel
theorem d_X14_expression_113 : decode b_X14_expression 113 = .ok (.aload_n 0, 1) := by decide +kernel
theorem d_X14_expression_114 : decode b_X14_expression 114 = .ok (.iconst 5, 1) := by decide +kernel
theorem d_X14_expression_115 : decode b_X14_expression 115 = .ok (.aload_n 0, 1) := by decide +kernel
theorem d_X14_expression_116 : decode b_X14_expression 116 = .ok (.getfield 23, 3) := by decide +kernel
theorem d_X14_expression_119 : decode b_X14_expression 119 = .ok (.iload 4, 2) := by decide +kernel
theorem d_X14_expression_121 : decode b_X14_expression 121 = .ok (.iaload, 1) := by decide +kernel
theorem d_X14_expression_122 : decode b_X14_expression 122 = .ok (.invokevirtual 322, 3) := by decide +kernel
theorem d_X14_expression_125 : decode b_X14_expression 125 = .ok (.iload 8, 2) := by decide +kernel
theorem d_X14_expression_127 : decode b_X14_expression 127 = .ok (.bipush 30, 2) := by decide +kernel
theorem d_X14_expression_129 : decode b_X14_expression 129 = .ok (.if_icmp .eq 20, 3) := by decide +kernel
theorem d_X14_expression_132 : decode b_X14_expression 132 = .ok (.aload_n 2, 1) := by decide +kernel
theorem d_X14_expression_133 : decode b_X14_expression 133 = .ok (.getfield 361, 3) := by decide +kernel
theorem d_X14_expression_136 : decode b_X14_expression 136 = .ok (.iconst 1, 1) := by decide +kernel
theorem d_X14_expression_137 : decode b_X14_expression 137 = .ok (.if_icmp .ne 12, 3) := by decide +kernel
theorem d_X14_expression_140 : decode b_X14_expression 140 = .ok (.aload_n 0, 1) := by decide +kernel
theorem d_X14_expression_141 : decode b_X14_expression 141 = .ok (.iconst 3, 1) := by decide +kernel
theorem d_X14_expression_142 : decode b_X14_expression 142 = .ok (.aload_n 2, 1) := by decide +kernel
theorem d_X14_expression_143 : decode b_X14_expression 143 = .ok (.getfield 364, 3) := by decide +kernel
theorem d_X14_expression_146 : decode b_X14_expression 146 = .ok (.invokevirtual 322, 3) := by decide +kernel
theorem d_X14_expression_149 : decode b_X14_expression 149 = .ok (.aload_n 0, 1) := by decide +kernel
theorem d_X14_expression_150 : decode b_X14_expression 150 = .ok (.iload 5, 2) := by decide +kernel
theorem d_X14_expression_152 : decode b_X14_expression 152 = .ok (.invokevirtual 395, 3) := by decide +kernel
theorem d_X14_expression_155 : decode b_X14_expression 155 = .ok (.astore 9, 2) := by decide +kernel
theorem d_X14_expression_157 : decode b_X14_expression 157 = .ok (.aload_n 0, 1) := by decide +kernel
theorem d_X14_expression_158 : decode b_X14_expression 158 = .ok (.aload 9, 2) := by decide +kernel
theorem d_X14_expression_160 : decode b_X14_expression 160 = .ok (.invokevirtual 398, 3) := by decide +kernel
theorem d_X14_expression_163 : decode b_X14_expression 163 = .ok (.iload 6, 2) := by decide +kernel
theorem d_X14_expression_165 : decode b_X14_expression 165 = .ok (.ifCond .eq 76, 3) := by decide +kernel
theorem d_X14_expression_168 : decode b_X14_expression 168 = .ok (.iload 8, 2) := by decide +kernel
theorem d_X14_expression_170 : decode b_X14_expression 170 = .ok (.bipush 30, 2) := by decide +kernel
theorem d_X14_expression_172 : decode b_X14_expression 172 = .ok (.if_icmp .ne 18, 3) := by decide +kernel
theorem d_X14_expression_175 : decode b_X14_expression 175 = .ok (.aload 9, 2) := by decide +kernel
theorem d_X14_expression_177 : decode b_X14_expression 177 = .ok (.aload_n 2, 1) := by decide +kernel
theorem d_X14_expression_178 : decode b_X14_expression 178 = .ok (.getfield 352, 3) := by decide +kernel
theorem d_X14_expression_181 : decode b_X14_expression 181 = .ok (.invokestatic 402, 3) := by decide +kernel
theorem d_X14_expression_184 : decode b_X14_expression 184 = .ok (.ifCond .eq 57, 3) := by decide +kernel
theorem d_X14_expression_187 : decode b_X14_expression 187 = .ok (.goto 50, 3) := by decide +kernel
theorem d_X14_expression_190 : decode b_X14_expression 190 = .ok (.iload 8, 2) := by decide +kernel
theorem d_X14_expression_192 : decode b_X14_expression 192 = .ok (.bipush 36, 2) := by decide +kernel
theorem d_X14_expression_194 : decode b_X14_expression 194 = .ok (.if_icmp .eq 10, 3) := by decide +kernel
theorem d_X14_expression_197 : decode b_X14_expression 197 = .ok (.iload 8, 2) := by decide +kernel
theorem d_X14_expression_199 : decode b_X14_expression 199 = .ok (.bipush 37, 2) := by decide +kernel
theorem d_X14_expression_201 : decode b_X14_expression 201 = .ok (.if_icmp .ne 21, 3) := by decide +kernel
theorem d_X14_expression_204 : decode b_X14_expression 204 = .ok (.aload_n 2, 1) := by decide +kernel
theorem d_X14_expression_205 : decode b_X14_expression 205 = .ok (.getfield 352, 3) := by decide +kernel
theorem d_X14_expression_208 : decode b_X14_expression 208 = .ok (.ifCond .lt 33, 3) := by decide +kernel
theorem d_X14_expression_211 : decode b_X14_expression 211 = .ok (.aload 9, 2) := by decide +kernel
theorem d_X14_expression_213 : decode b_X14_expression 213 = .ok (.invokestatic 406, 3) := by decide +kernel
theorem d_X14_expression_216 : decode b_X14_expression 216 = .ok (.ifCond .eq 25, 3) := by decide +kernel
theorem d_X14_expression_219 : decode b_X14_expression 219 = .ok (.goto 18, 3) := by decide +kernel
theorem d_X14_expression_222 : decode b_X14_expression 222 = .ok (.aload_n 2, 1) := by decide +kernel
theorem d_X14_expression_223 : decode b_X14_expression 223 = .ok (.invokestatic 406, 3) := by decide +kernel
theorem d_X14_expression_226 : decode b_X14_expression 226 = .ok (.ifCond .eq 15, 3) := by decide +kernel
theorem d_X14_expression_229 : decode b_X14_expression 229 = .ok (.aload 9, 2) := by decide +kernel
theorem d_X14_expression_231 : decode b_X14_expression 231 = .ok (.invokestatic 406, 3) := by decide +kernel
theorem d_X14_expression_234 : decode b_X14_expression 234 = .ok (.ifCond .eq 7, 3) := by decide +kernel
theorem d_X14_expression_237 : decode b_X14_expression 237 = .ok (.iconst 1, 1) := by decide +kernel
theorem d_X14_expression_238 : decode b_X14_expression 238 = .ok (.goto 4, 3) := by decide +kernel
theorem d_X14_expression_241 : decode b_X14_expression 241 = .ok (.iconst 0, 1) := by decide +kernel
theorem d_X14_expression_242 : decode b_X14_expression 242 = .ok (.istore 10, 2) := by decide +kernel
theorem d_X14_expression_244 : decode b_X14_expression 244 = .ok (.aload_n 0, 1) := by decide +kernel
theorem d_X14_expression_245 : decode b_X14_expression 245 = .ok (.iload 10, 2) := by decide +kernel
theorem d_X14_expression_247 : decode b_X14_expression 247 = .ok (.iload 4, 2) := by decide +kernel
theorem d_X14_expression_249 : decode b_X14_expression 249 = .ok (.invokevirtual 410, 3) := by decide +kernel
theorem d_X14_expression_252 : decode b_X14_expression 252 = .ok (.aload_n 0, 1) := by decide +kernel
theorem d_X14_expression_253 : decode b_X14_expression 253 = .ok (.iload 10, 2) := by decide +kernel
theorem d_X14_expression_255 : decode b_X14_expression 255 = .ok (.ifCond .eq 10, 3) := by decide +kernel
theorem d_X14_expression_258 : decode b_X14_expression 258 = .ok (.aload_n 2, 1) := by decide +kernel
theorem d_X14_expression_259 : decode b_X14_expression 259 = .ok (.getfield 352, 3) := by decide +kernel
theorem d_X14_expression_262 : decode b_X14_expression 262 = .ok (.goto 5, 3) := by decide +kernel
theorem d_X14_expression_265 : decode b_X14_expression 265 = .ok (.bipush (-2), 2) := by decide +kernel
theorem d_X14_expression_267 : decode b_X14_expression 267 = .ok (.aload_n 2, 1) := by decide +kernel
theorem d_X14_expression_268 : decode b_X14_expression 268 = .ok (.aload 9, 2) := by decide +kernel
theorem d_X14_expression_270 : decode b_X14_expression 270 = .ok (.iload 4, 2) := by decide +kernel
theorem d_X14_expression_272 : decode b_X14_expression 272 = .ok (.invokevirtual 414, 3) := by decide +kernel
theorem d_X14_expression_275 : decode b_X14_expression 275 = .ok (.astore 11, 2) := by decide +kernel
theorem d_X14_expression_277 : decode b_X14_expression 277 = .ok (.iload 8, 2) := by decide +kernel
theorem d_X14_expression_279 : decode b_X14_expression 279 = .ok (.bipush 30, 2) := by decide +kernel
theorem d_X14_expression_281 : decode b_X14_expression 281 = .ok (.if_icmp .eq 18, 3) := by decide +kernel
theorem d_X14_expression_284 : decode b_X14_expression 284 = .ok (.aload_n 0, 1) := by decide +kernel
theorem d_X14_expression_285 : decode b_X14_expression 285 = .ok (.bipush 11, 2) := by decide +kernel
theorem d_X14_expression_287 : decode b_X14_expression 287 = .ok (.iload 8, 2) := by decide +kernel
theorem d_X14_expression_289 : decode b_X14_expression 289 = .ok (.aload_n 0, 1) := by decide +kernel
theorem d_X14_expression_290 : decode b_X14_expression 290 = .ok (.getfield 23, 3) := by decide +kernel
theorem d_X14_expression_293 : decode b_X14_expression 293 = .ok (.iload 4, 2) := by decide +kernel
theorem d_X14_expression_295 : decode b_X14_expression 295 = .ok (.iaload, 1) := by decide +kernel
theorem d_X14_expression_296 : decode b_X14_expression 296 = .ok (.invokevirtual 418, 3) := by decide +kernel
theorem d_X14_expression_299 : decode b_X14_expression 299 = .ok (.iload 7, 2) := by decide +kernel
theorem d_X14_expression_301 : decode b_X14_expression 301 = .ok (.ifCond .eq 19, 3) := by decide +kernel
theorem d_X14_expression_304 : decode b_X14_expression 304 = .ok (.aload_n 0, 1) := by decide +kernel
theorem d_X14_expression_305 : decode b_X14_expression 305 = .ok (.bipush 6, 2) := by decide +kernel
theorem d_X14_expression_307 : decode b_X14_expression 307 = .ok (.aload_n 0, 1) := by decide +kernel
theorem d_X14_expression_308 : decode b_X14_expression 308 = .ok (.getfield 23, 3) := by decide +kernel
theorem d_X14_expression_311 : decode b_X14_expression 311 = .ok (.iload 4, 2) := by decide +kernel
theorem d_X14_expression_313 : decode b_X14_expression 313 = .ok (.iaload, 1) := by decide +kernel
theorem d_X14_expression_314 : decode b_X14_expression 314 = .ok (.invokevirtual 322, 3) := by decide +kernel
theorem d_X14_expression_317 : decode b_X14_expression 317 = .ok (.goto 13, 3) := by decide +kernel
theorem d_X14_expression_320 : decode b_X14_expression 320 = .ok (.aload_n 0, 1) := by decide +kernel
theorem d_X14_expression_321 : decode b_X14_expression 321 = .ok (.bipush 7, 2) := by decide +kernel
theorem d_X14_expression_323 : decode b_X14_expression 323 = .ok (.aload_n 2, 1) := by decide +kernel
theorem d_X14_expression_324 : decode b_X14_expression 324 = .ok (.getfield 364, 3) := by decide +kernel
theorem d_X14_expression_327 : decode b_X14_expression 327 = .ok (.invokevirtual 322, 3) := by decide +kernel
theorem d_X14_expression_330 : decode b_X14_expression 330 = .ok (.aload 11, 2) := by decide +kernel
theorem d_X14_expression_332 : decode b_X14_expression 332 = .ok (.areturn, 1) := by decide +kernel
theorem d_X14_fault_0 : decode b_X14_fault 0 = .ok (.iload_n 1, 1) := by decide +kernel
theorem d_X14_fault_1 : decode b_X14_fault 1 = .ok (.ifCond .ne 10, 3) := by decide +kernel
theorem d_X14_fault_4 : decode b_X14_fault 4 = .ok (.aload_n 0, 1) := by decide +kernel
theorem d_X14_fault_5 : decode b_X14_fault 5 = .ok (.getfield 153, 3) := by decide +kernel
theorem d_X14_fault_8 : decode b_X14_fault 8 = .ok (.goto 16, 3) := by decide +kernel
theorem d_X14_fault_11 : decode b_X14_fault 11 = .ok (.iload_n 1, 1) := by decide +kernel
theorem d_X14_fault_12 : decode b_X14_fault 12 = .ok (.iconst 1, 1) := by decide +kernel
theorem d_X14_fault_13 : decode b_X14_fault 13 = .ok (.if_icmp .ne 10, 3) := by decide +kernel
theorem d_X14_fault_16 : decode b_X14_fault 16 = .ok (.aload_n 0, 1) := by decide +kernel
theorem d_X14_fault_17 : decode b_X14_fault 17 = .ok (.getfield 156, 3) := by decide +kernel
theorem d_X14_fault_20 : decode b_X14_fault 20 = .ok (.goto 4, 3) := by decide +kernel
theorem d_X14_fault_23 : decode b_X14_fault 23 = .ok (.iconst (-1), 1) := by decide +kernel
theorem d_X14_fault_24 : decode b_X14_fault 24 = .ok (.ireturn, 1) := by decide +kernel
theorem d_X14_feed_0 : decode b_X14_feed 0 = .ok (.aload_n 0, 1) := by decide +kernel
theorem d_X14_feed_1 : decode b_X14_feed 1 = .ok (.getfield 197, 3) := by decide +kernel
theorem d_X14_feed_4 : decode b_X14_feed 4 = .ok (.bipush 20, 2) := by decide +kernel
theorem d_X14_feed_6 : decode b_X14_feed 6 = .ok (.iadd, 1) := by decide +kernel
theorem d_X14_feed_7 : decode b_X14_feed 7 = .ok (.sipush 16000, 3) := by decide +kernel
theorem d_X14_feed_10 : decode b_X14_feed 10 = .ok (.if_icmp .gt 15, 3) := by decide +kernel
theorem d_X14_feed_13 : decode b_X14_feed 13 = .ok (.aload_n 0, 1) := by decide +kernel
theorem d_X14_feed_14 : decode b_X14_feed 14 = .ok (.getfield 200, 3) := by decide +kernel
theorem d_X14_feed_17 : decode b_X14_feed 17 = .ok (.bipush 20, 2) := by decide +kernel
theorem d_X14_feed_19 : decode b_X14_feed 19 = .ok (.iadd, 1) := by decide +kernel
theorem d_X14_feed_20 : decode b_X14_feed 20 = .ok (.ldc 79, 2) := by decide +kernel
theorem d_X14_feed_22 : decode b_X14_feed 22 = .ok (.if_icmp .le 5, 3) := by decide +kernel
theorem d_X14_feed_25 : decode b_X14_feed 25 = .ok (.iconst (-1), 1) := by decide +kernel
theorem d_X14_feed_26 : decode b_X14_feed 26 = .ok (.ireturn, 1) := by decide +kernel
theorem d_X14_feed_27 : decode b_X14_feed 27 = .ok (.iconst 0, 1) := by decide +kernel
theorem d_X14_feed_28 : decode b_X14_feed 28 = .ok (.istore 6, 2) := by decide +kernel
theorem d_X14_feed_30 : decode b_X14_feed 30 = .ok (.iload 6, 2) := by decide +kernel
theorem d_X14_feed_32 : decode b_X14_feed 32 = .ok (.bipush 20, 2) := by decide +kernel
theorem d_X14_feed_34 : decode b_X14_feed 34 = .ok (.if_icmp .ge 83, 3) := by decide +kernel
theorem d_X14_feed_37 : decode b_X14_feed 37 = .ok (.iload 6, 2) := by decide +kernel
theorem d_X14_feed_39 : decode b_X14_feed 39 = .ok (.iconst 4, 1) := by decide +kernel
theorem d_X14_feed_40 : decode b_X14_feed 40 = .ok (.if_icmp .ge 7, 3) := by decide +kernel
theorem d_X14_feed_43 : decode b_X14_feed 43 = .ok (.iload_n 1, 1) := by decide +kernel
theorem d_X14_feed_44 : decode b_X14_feed 44 = .ok (.goto 39, 3) := by decide +kernel
theorem d_X14_feed_47 : decode b_X14_feed 47 = .ok (.iload 6, 2) := by decide +kernel
theorem d_X14_feed_49 : decode b_X14_feed 49 = .ok (.bipush 8, 2) := by decide +kernel
theorem d_X14_feed_51 : decode b_X14_feed 51 = .ok (.if_icmp .ge 7, 3) := by decide +kernel
theorem d_X14_feed_54 : decode b_X14_feed 54 = .ok (.iload_n 2, 1) := by decide +kernel
theorem d_X14_feed_55 : decode b_X14_feed 55 = .ok (.goto 28, 3) := by decide +kernel
theorem d_X14_feed_58 : decode b_X14_feed 58 = .ok (.iload 6, 2) := by decide +kernel
theorem d_X14_feed_60 : decode b_X14_feed 60 = .ok (.bipush 12, 2) := by decide +kernel
theorem d_X14_feed_62 : decode b_X14_feed 62 = .ok (.if_icmp .ge 7, 3) := by decide +kernel
theorem d_X14_feed_65 : decode b_X14_feed 65 = .ok (.iload_n 3, 1) := by decide +kernel
theorem d_X14_feed_66 : decode b_X14_feed 66 = .ok (.goto 17, 3) := by decide +kernel
theorem d_X14_feed_69 : decode b_X14_feed 69 = .ok (.iload 6, 2) := by decide +kernel
theorem d_X14_feed_71 : decode b_X14_feed 71 = .ok (.bipush 16, 2) := by decide +kernel
theorem d_X14_feed_73 : decode b_X14_feed 73 = .ok (.if_icmp .ge 8, 3) := by decide +kernel
theorem d_X14_feed_76 : decode b_X14_feed 76 = .ok (.iload 4, 2) := by decide +kernel
theorem d_X14_feed_78 : decode b_X14_feed 78 = .ok (.goto 5, 3) := by decide +kernel
theorem d_X14_feed_81 : decode b_X14_feed 81 = .ok (.iload 5, 2) := by decide +kernel
theorem d_X14_feed_83 : decode b_X14_feed 83 = .ok (.istore 7, 2) := by decide +kernel
theorem d_X14_feed_85 : decode b_X14_feed 85 = .ok (.aload_n 0, 1) := by decide +kernel
theorem d_X14_feed_86 : decode b_X14_feed 86 = .ok (.getfield 9, 3) := by decide +kernel
theorem d_X14_feed_89 : decode b_X14_feed 89 = .ok (.aload_n 0, 1) := by decide +kernel
theorem d_X14_feed_90 : decode b_X14_feed 90 = .ok (.getfield 197, 3) := by decide +kernel
theorem d_X14_feed_93 : decode b_X14_feed 93 = .ok (.iload 6, 2) := by decide +kernel
theorem d_X14_feed_95 : decode b_X14_feed 95 = .ok (.iadd, 1) := by decide +kernel
theorem d_X14_feed_96 : decode b_X14_feed 96 = .ok (.iload 7, 2) := by decide +kernel
theorem d_X14_feed_98 : decode b_X14_feed 98 = .ok (.bipush 24, 2) := by decide +kernel
theorem d_X14_feed_100 : decode b_X14_feed 100 = .ok (.bipush 8, 2) := by decide +kernel
theorem d_X14_feed_102 : decode b_X14_feed 102 = .ok (.iload 6, 2) := by decide +kernel
theorem d_X14_feed_104 : decode b_X14_feed 104 = .ok (.iconst 4, 1) := by decide +kernel
theorem d_X14_feed_105 : decode b_X14_feed 105 = .ok (.irem, 1) := by decide +kernel
theorem d_X14_feed_106 : decode b_X14_feed 106 = .ok (.imul, 1) := by decide +kernel
theorem d_X14_feed_107 : decode b_X14_feed 107 = .ok (.isub, 1) := by decide +kernel
theorem d_X14_feed_108 : decode b_X14_feed 108 = .ok (.ishr, 1) := by decide +kernel
theorem d_X14_feed_109 : decode b_X14_feed 109 = .ok (.i2b, 1) := by decide +kernel
theorem d_X14_feed_110 : decode b_X14_feed 110 = .ok (.bastore, 1) := by decide +kernel
theorem d_X14_feed_111 : decode b_X14_feed 111 = .ok (.iinc 6 1, 3) := by decide +kernel
theorem d_X14_feed_114 : decode b_X14_feed 114 = .ok (.goto (-84), 3) := by decide +kernel
theorem d_X14_feed_117 : decode b_X14_feed 117 = .ok (.aload_n 0, 1) := by decide +kernel
theorem d_X14_feed_118 : decode b_X14_feed 118 = .ok (.dup, 1) := by decide +kernel
theorem d_X14_feed_119 : decode b_X14_feed 119 = .ok (.getfield 197, 3) := by decide +kernel
theorem d_X14_feed_122 : decode b_X14_feed 122 = .ok (.bipush 20, 2) := by decide +kernel
theorem d_X14_feed_124 : decode b_X14_feed 124 = .ok (.iadd, 1) := by decide +kernel
theorem d_X14_feed_125 : decode b_X14_feed 125 = .ok (.putfield 197, 3) := by decide +kernel
theorem d_X14_feed_128 : decode b_X14_feed 128 = .ok (.aload_n 0, 1) := by decide +kernel
theorem d_X14_feed_129 : decode b_X14_feed 129 = .ok (.dup, 1) := by decide +kernel
theorem d_X14_feed_130 : decode b_X14_feed 130 = .ok (.getfield 200, 3) := by decide +kernel
theorem d_X14_feed_133 : decode b_X14_feed 133 = .ok (.bipush 20, 2) := by decide +kernel
theorem d_X14_feed_135 : decode b_X14_feed 135 = .ok (.iadd, 1) := by decide +kernel
theorem d_X14_feed_136 : decode b_X14_feed 136 = .ok (.putfield 200, 3) := by decide +kernel
theorem d_X14_feed_139 : decode b_X14_feed 139 = .ok (.aload_n 0, 1) := by decide +kernel
theorem d_X14_feed_140 : decode b_X14_feed 140 = .ok (.getfield 197, 3) := by decide +kernel
theorem d_X14_feed_143 : decode b_X14_feed 143 = .ok (.ireturn, 1) := by decide +kernel
theorem d_X14_fill_0 : decode b_X14_fill 0 = .ok (.iload_n 3, 1) := by decide +kernel
theorem d_X14_fill_1 : decode b_X14_fill 1 = .ok (.ifCond .ge 4, 3) := by decide +kernel
theorem d_X14_fill_4 : decode b_X14_fill 4 = .ok (.return_, 1) := by decide +kernel
theorem d_X14_fill_5 : decode b_X14_fill 5 = .ok (.iload 4, 2) := by decide +kernel
theorem d_X14_fill_7 : decode b_X14_fill 7 = .ok (.ifCond .ne 25, 3) := by decide +kernel
theorem d_X14_fill_10 : decode b_X14_fill 10 = .ok (.aload_n 0, 1) := by decide +kernel
theorem d_X14_fill_11 : decode b_X14_fill 11 = .ok (.getfield 26, 3) := by decide +kernel
theorem d_X14_fill_14 : decode b_X14_fill 14 = .ok (.iload_n 1, 1) := by decide +kernel
theorem d_X14_fill_15 : decode b_X14_fill 15 = .ok (.iaload, 1) := by decide +kernel
theorem d_X14_fill_16 : decode b_X14_fill 16 = .ok (.iload_n 2, 1) := by decide +kernel
theorem d_X14_fill_17 : decode b_X14_fill 17 = .ok (.if_icmp .gt 14, 3) := by decide +kernel
theorem d_X14_fill_20 : decode b_X14_fill 20 = .ok (.aload_n 0, 1) := by decide +kernel
theorem d_X14_fill_21 : decode b_X14_fill 21 = .ok (.iload_n 1, 1) := by decide +kernel
theorem d_X14_fill_22 : decode b_X14_fill 22 = .ok (.aload_n 0, 1) := by decide +kernel
theorem d_X14_fill_23 : decode b_X14_fill 23 = .ok (.getfield 70, 3) := by decide +kernel
theorem d_X14_fill_26 : decode b_X14_fill 26 = .ok (.iload_n 3, 1) := by decide +kernel
theorem d_X14_fill_27 : decode b_X14_fill 27 = .ok (.iaload, 1) := by decide +kernel
theorem d_X14_fill_28 : decode b_X14_fill 28 = .ok (.invokevirtual 518, 3) := by decide +kernel
theorem d_X14_fill_31 : decode b_X14_fill 31 = .ok (.return_, 1) := by decide +kernel
theorem d_X14_fill_32 : decode b_X14_fill 32 = .ok (.aload_n 0, 1) := by decide +kernel
theorem d_X14_fill_33 : decode b_X14_fill 33 = .ok (.getfield 17, 3) := by decide +kernel
theorem d_X14_fill_36 : decode b_X14_fill 36 = .ok (.iload_n 1, 1) := by decide +kernel
theorem d_X14_fill_37 : decode b_X14_fill 37 = .ok (.iaload, 1) := by decide +kernel
theorem d_X14_fill_38 : decode b_X14_fill 38 = .ok (.iconst 1, 1) := by decide +kernel
theorem d_X14_fill_39 : decode b_X14_fill 39 = .ok (.iadd, 1) := by decide +kernel
theorem d_X14_fill_40 : decode b_X14_fill 40 = .ok (.istore 5, 2) := by decide +kernel
theorem d_X14_fill_42 : decode b_X14_fill 42 = .ok (.iconst 0, 1) := by decide +kernel
theorem d_X14_fill_43 : decode b_X14_fill 43 = .ok (.istore 6, 2) := by decide +kernel
theorem d_X14_fill_45 : decode b_X14_fill 45 = .ok (.iload 6, 2) := by decide +kernel
theorem d_X14_fill_47 : decode b_X14_fill 47 = .ok (.aload_n 0, 1) := by decide +kernel
theorem d_X14_fill_48 : decode b_X14_fill 48 = .ok (.getfield 26, 3) := by decide +kernel
theorem d_X14_fill_51 : decode b_X14_fill 51 = .ok (.iload_n 1, 1) := by decide +kernel
theorem d_X14_fill_52 : decode b_X14_fill 52 = .ok (.iaload, 1) := by decide +kernel
theorem d_X14_fill_53 : decode b_X14_fill 53 = .ok (.if_icmp .ge 78, 3) := by decide +kernel
theorem d_X14_fill_56 : decode b_X14_fill 56 = .ok (.aload_n 0, 1) := by decide +kernel
theorem d_X14_fill_57 : decode b_X14_fill 57 = .ok (.iconst 4, 1) := by decide +kernel
theorem d_X14_fill_58 : decode b_X14_fill 58 = .ok (.iload_n 3, 1) := by decide +kernel
theorem d_X14_fill_59 : decode b_X14_fill 59 = .ok (.invokevirtual 322, 3) := by decide +kernel
theorem d_X14_fill_62 : decode b_X14_fill 62 = .ok (.aload_n 0, 1) := by decide +kernel
theorem d_X14_fill_63 : decode b_X14_fill 63 = .ok (.iconst 0, 1) := by decide +kernel
theorem d_X14_fill_64 : decode b_X14_fill 64 = .ok (.iload 6, 2) := by decide +kernel
theorem d_X14_fill_66 : decode b_X14_fill 66 = .ok (.invokevirtual 322, 3) := by decide +kernel
theorem d_X14_fill_69 : decode b_X14_fill 69 = .ok (.aload_n 0, 1) := by decide +kernel
theorem d_X14_fill_70 : decode b_X14_fill 70 = .ok (.bipush 11, 2) := by decide +kernel
theorem d_X14_fill_72 : decode b_X14_fill 72 = .ok (.bipush 36, 2) := by decide +kernel
theorem d_X14_fill_74 : decode b_X14_fill 74 = .ok (.iconst 0, 1) := by decide +kernel
theorem d_X14_fill_75 : decode b_X14_fill 75 = .ok (.invokevirtual 418, 3) := by decide +kernel
theorem d_X14_fill_78 : decode b_X14_fill 78 = .ok (.aload_n 0, 1) := by decide +kernel
theorem d_X14_fill_79 : decode b_X14_fill 79 = .ok (.iconst 0, 1) := by decide +kernel
theorem d_X14_fill_80 : decode b_X14_fill 80 = .ok (.aload_n 0, 1) := by decide +kernel
theorem d_X14_fill_81 : decode b_X14_fill 81 = .ok (.iload 5, 2) := by decide +kernel
theorem d_X14_fill_83 : decode b_X14_fill 83 = .ok (.bipush 34, 2) := by decide +kernel
theorem d_X14_fill_85 : decode b_X14_fill 85 = .ok (.invokevirtual 283, 3) := by decide +kernel
theorem d_X14_fill_88 : decode b_X14_fill 88 = .ok (.invokevirtual 322, 3) := by decide +kernel
theorem d_X14_fill_91 : decode b_X14_fill 91 = .ok (.aload_n 0, 1) := by decide +kernel
theorem d_X14_fill_92 : decode b_X14_fill 92 = .ok (.bipush 6, 2) := by decide +kernel
theorem d_X14_fill_94 : decode b_X14_fill 94 = .ok (.iconst 0, 1) := by decide +kernel
theorem d_X14_fill_95 : decode b_X14_fill 95 = .ok (.invokevirtual 322, 3) := by decide +kernel
theorem d_X14_fill_98 : decode b_X14_fill 98 = .ok (.aload_n 0, 1) := by decide +kernel
theorem d_X14_fill_99 : decode b_X14_fill 99 = .ok (.bipush 10, 2) := by decide +kernel
theorem d_X14_fill_101 : decode b_X14_fill 101 = .ok (.invokevirtual 318, 3) := by decide +kernel
theorem d_X14_fill_104 : decode b_X14_fill 104 = .ok (.iload 5, 2) := by decide +kernel
theorem d_X14_fill_106 : decode b_X14_fill 106 = .ok (.aload_n 0, 1) := by decide +kernel
theorem d_X14_fill_107 : decode b_X14_fill 107 = .ok (.iload 5, 2) := by decide +kernel
theorem d_X14_fill_109 : decode b_X14_fill 109 = .ok (.invokevirtual 209, 3) := by decide +kernel
theorem d_X14_fill_112 : decode b_X14_fill 112 = .ok (.bipush 92, 2) := by decide +kernel
theorem d_X14_fill_114 : decode b_X14_fill 114 = .ok (.if_icmp .ne 7, 3) := by decide +kernel
theorem d_X14_fill_117 : decode b_X14_fill 117 = .ok (.iconst 2, 1) := by decide +kernel
theorem d_X14_fill_118 : decode b_X14_fill 118 = .ok (.goto 4, 3) := by decide +kernel
theorem d_X14_fill_121 : decode b_X14_fill 121 = .ok (.iconst 1, 1) := by decide +kernel
theorem d_X14_fill_122 : decode b_X14_fill 122 = .ok (.iadd, 1) := by decide +kernel
theorem d_X14_fill_123 : decode b_X14_fill 123 = .ok (.istore 5, 2) := by decide +kernel
theorem d_X14_fill_125 : decode b_X14_fill 125 = .ok (.iinc 6 1, 3) := by decide +kernel
theorem d_X14_fill_128 : decode b_X14_fill 128 = .ok (.goto (-83), 3) := by decide +kernel
theorem d_X14_fill_131 : decode b_X14_fill 131 = .ok (.return_, 1) := by decide +kernel
theorem d_X14_find_0 : decode b_X14_find 0 = .ok (.iconst 0, 1) := by decide +kernel
theorem d_X14_find_1 : decode b_X14_find 1 = .ok (.istore_n 3, 1) := by decide +kernel
theorem d_X14_find_2 : decode b_X14_find 2 = .ok (.iload_n 3, 1) := by decide +kernel
theorem d_X14_find_3 : decode b_X14_find 3 = .ok (.iload_n 2, 1) := by decide +kernel
theorem d_X14_find_4 : decode b_X14_find 4 = .ok (.if_icmp .ge 82, 3) := by decide +kernel
theorem d_X14_find_7 : decode b_X14_find 7 = .ok (.aload_n 0, 1) := by decide +kernel
theorem d_X14_find_8 : decode b_X14_find 8 = .ok (.getfield 86, 3) := by decide +kernel
theorem d_X14_find_11 : decode b_X14_find 11 = .ok (.aload_n 0, 1) := by decide +kernel
theorem d_X14_find_12 : decode b_X14_find 12 = .ok (.getfield 141, 3) := by decide +kernel
theorem d_X14_find_15 : decode b_X14_find 15 = .ok (.iload_n 3, 1) := by decide +kernel
theorem d_X14_find_16 : decode b_X14_find 16 = .ok (.iaload, 1) := by decide +kernel
theorem d_X14_find_17 : decode b_X14_find 17 = .ok (.iconst 1, 1) := by decide +kernel
theorem d_X14_find_18 : decode b_X14_find 18 = .ok (.isub, 1) := by decide +kernel
theorem d_X14_find_19 : decode b_X14_find 19 = .ok (.iaload, 1) := by decide +kernel
theorem d_X14_find_20 : decode b_X14_find 20 = .ok (.istore 4, 2) := by decide +kernel
theorem d_X14_find_22 : decode b_X14_find 22 = .ok (.iload 4, 2) := by decide +kernel
theorem d_X14_find_24 : decode b_X14_find 24 = .ok (.aload_n 0, 1) := by decide +kernel
theorem d_X14_find_25 : decode b_X14_find 25 = .ok (.getfield 86, 3) := by decide +kernel
theorem d_X14_find_28 : decode b_X14_find 28 = .ok (.aload_n 0, 1) := by decide +kernel
theorem d_X14_find_29 : decode b_X14_find 29 = .ok (.getfield 141, 3) := by decide +kernel
theorem d_X14_find_32 : decode b_X14_find 32 = .ok (.iload_n 3, 1) := by decide +kernel
theorem d_X14_find_33 : decode b_X14_find 33 = .ok (.iaload, 1) := by decide +kernel
theorem d_X14_find_34 : decode b_X14_find 34 = .ok (.iaload, 1) := by decide +kernel
theorem d_X14_find_35 : decode b_X14_find 35 = .ok (.if_icmp .ge 45, 3) := by decide +kernel
theorem d_X14_find_38 : decode b_X14_find 38 = .ok (.aload_n 0, 1) := by decide +kernel
theorem d_X14_find_39 : decode b_X14_find 39 = .ok (.iload 4, 2) := by decide +kernel
theorem d_X14_find_41 : decode b_X14_find 41 = .ok (.iconst 1, 1) := by decide +kernel
theorem d_X14_find_42 : decode b_X14_find 42 = .ok (.invokevirtual 694, 3) := by decide +kernel
theorem d_X14_find_45 : decode b_X14_find 45 = .ok (.ifCond .eq 29, 3) := by decide +kernel
theorem d_X14_find_48 : decode b_X14_find 48 = .ok (.aload_n 0, 1) := by decide +kernel
theorem d_X14_find_49 : decode b_X14_find 49 = .ok (.iload_n 1, 1) := by decide +kernel
theorem d_X14_find_50 : decode b_X14_find 50 = .ok (.iload 4, 2) := by decide +kernel
theorem d_X14_find_52 : decode b_X14_find 52 = .ok (.invokevirtual 698, 3) := by decide +kernel
theorem d_X14_find_55 : decode b_X14_find 55 = .ok (.ifCond .ne 6, 3) := by decide +kernel
theorem d_X14_find_58 : decode b_X14_find 58 = .ok (.goto 16, 3) := by decide +kernel
theorem d_X14_find_61 : decode b_X14_find 61 = .ok (.aload_n 0, 1) := by decide +kernel
theorem d_X14_find_62 : decode b_X14_find 62 = .ok (.iload_n 3, 1) := by decide +kernel
theorem d_X14_find_63 : decode b_X14_find 63 = .ok (.putfield 701, 3) := by decide +kernel
theorem d_X14_find_66 : decode b_X14_find 66 = .ok (.aload_n 0, 1) := by decide +kernel
theorem d_X14_find_67 : decode b_X14_find 67 = .ok (.iload 4, 2) := by decide +kernel
theorem d_X14_find_69 : decode b_X14_find 69 = .ok (.putfield 704, 3) := by decide +kernel
theorem d_X14_find_72 : decode b_X14_find 72 = .ok (.iconst 1, 1) := by decide +kernel
theorem d_X14_find_73 : decode b_X14_find 73 = .ok (.ireturn, 1) := by decide +kernel
theorem d_X14_find_74 : decode b_X14_find 74 = .ok (.iinc 4 1, 3) := by decide +kernel
theorem d_X14_find_77 : decode b_X14_find 77 = .ok (.goto (-55), 3) := by decide +kernel
theorem d_X14_find_80 : decode b_X14_find 80 = .ok (.iinc 3 1, 3) := by decide +kernel
theorem d_X14_find_83 : decode b_X14_find 83 = .ok (.goto (-81), 3) := by decide +kernel
theorem d_X14_find_86 : decode b_X14_find 86 = .ok (.iconst 0, 1) := by decide +kernel
theorem d_X14_find_87 : decode b_X14_find 87 = .ok (.ireturn, 1) := by decide +kernel
theorem d_X14_fits_0 : decode b_X14_fits 0 = .ok (.aload_n 0, 1) := by decide +kernel
theorem d_X14_fits_1 : decode b_X14_fits 1 = .ok (.getfield 352, 3) := by decide +kernel
theorem d_X14_fits_4 : decode b_X14_fits 4 = .ok (.iload_n 1, 1) := by decide +kernel
theorem d_X14_fits_5 : decode b_X14_fits 5 = .ok (.if_icmp .eq 14, 3) := by decide +kernel
theorem d_X14_fits_8 : decode b_X14_fits 8 = .ok (.iload_n 1, 1) := by decide +kernel
theorem d_X14_fits_9 : decode b_X14_fits 9 = .ok (.ifCond .le 14, 3) := by decide +kernel
theorem d_X14_fits_12 : decode b_X14_fits 12 = .ok (.aload_n 0, 1) := by decide +kernel
theorem d_X14_fits_13 : decode b_X14_fits 13 = .ok (.getfield 357, 3) := by decide +kernel
theorem d_X14_fits_16 : decode b_X14_fits 16 = .ok (.ifCond .eq 7, 3) := by decide +kernel
theorem d_X14_fits_19 : decode b_X14_fits 19 = .ok (.iconst 1, 1) := by decide +kernel
theorem d_X14_fits_20 : decode b_X14_fits 20 = .ok (.goto 4, 3) := by decide +kernel
theorem d_X14_fits_23 : decode b_X14_fits 23 = .ok (.iconst 0, 1) := by decide +kernel
theorem d_X14_fits_24 : decode b_X14_fits 24 = .ok (.ireturn, 1) := by decide +kernel
theorem d_X14_forStatement_0 : decode b_X14_forStatement 0 = .ok (.aload_n 0, 1) := by decide +kernel
theorem d_X14_forStatement_1 : decode b_X14_forStatement 1 = .ok (.dup, 1) := by decide +kernel
theorem d_X14_forStatement_2 : decode b_X14_forStatement 2 = .ok (.getfield 288, 3) := by decide +kernel
theorem d_X14_forStatement_5 : decode b_X14_forStatement 5 = .ok (.iconst 1, 1) := by decide +kernel
theorem d_X14_forStatement_6 : decode b_X14_forStatement 6 = .ok (.iadd, 1) := by decide +kernel
theorem d_X14_forStatement_7 : decode b_X14_forStatement 7 = .ok (.putfield 288, 3) := by decide +kernel
theorem d_X14_forStatement_10 : decode b_X14_forStatement 10 = .ok (.aload_n 0, 1) := by decide +kernel
theorem d_X14_forStatement_11 : decode b_X14_forStatement 11 = .ok (.bipush 20, 2) := by decide +kernel
theorem d_X14_forStatement_13 : decode b_X14_forStatement 13 = .ok (.invokevirtual 497, 3) := by decide +kernel
theorem d_X14_forStatement_16 : decode b_X14_forStatement 16 = .ok (.aload_n 0, 1) := by decide +kernel
theorem d_X14_forStatement_17 : decode b_X14_forStatement 17 = .ok (.bipush 27, 2) := by decide +kernel
theorem d_X14_forStatement_19 : decode b_X14_forStatement 19 = .ok (.invokevirtual 308, 3) := by decide +kernel
theorem d_X14_forStatement_22 : decode b_X14_forStatement 22 = .ok (.ifCond .ne 7, 3) := by decide +kernel
theorem d_X14_forStatement_25 : decode b_X14_forStatement 25 = .ok (.aload_n 0, 1) := by decide +kernel
theorem d_X14_forStatement_26 : decode b_X14_forStatement 26 = .ok (.invokevirtual 585, 3) := by decide +kernel
theorem d_X14_forStatement_29 : decode b_X14_forStatement 29 = .ok (.aload_n 0, 1) := by decide +kernel
theorem d_X14_forStatement_30 : decode b_X14_forStatement 30 = .ok (.bipush 27, 2) := by decide +kernel
theorem d_X14_forStatement_32 : decode b_X14_forStatement 32 = .ok (.invokevirtual 497, 3) := by decide +kernel
theorem d_X14_forStatement_35 : decode b_X14_forStatement 35 = .ok (.aload_n 0, 1) := by decide +kernel
theorem d_X14_forStatement_36 : decode b_X14_forStatement 36 = .ok (.getfield 315, 3) := by decide +kernel
theorem d_X14_forStatement_39 : decode b_X14_forStatement 39 = .ok (.istore_n 3, 1) := by decide +kernel
theorem d_X14_forStatement_40 : decode b_X14_forStatement 40 = .ok (.iconst (-1), 1) := by decide +kernel
theorem d_X14_forStatement_41 : decode b_X14_forStatement 41 = .ok (.istore 4, 2) := by decide +kernel
theorem d_X14_forStatement_43 : decode b_X14_forStatement 43 = .ok (.aload_n 0, 1) := by decide +kernel
theorem d_X14_forStatement_44 : decode b_X14_forStatement 44 = .ok (.bipush 27, 2) := by decide +kernel
theorem d_X14_forStatement_46 : decode b_X14_forStatement 46 = .ok (.invokevirtual 308, 3) := by decide +kernel
theorem d_X14_forStatement_49 : decode b_X14_forStatement 49 = .ok (.ifCond .ne 34, 3) := by decide +kernel
theorem d_X14_forStatement_52 : decode b_X14_forStatement 52 = .ok (.aload_n 0, 1) := by decide +kernel
theorem d_X14_forStatement_53 : decode b_X14_forStatement 53 = .ok (.iconst 1, 1) := by decide +kernel
theorem d_X14_forStatement_54 : decode b_X14_forStatement 54 = .ok (.invokevirtual 395, 3) := by decide +kernel
theorem d_X14_forStatement_57 : decode b_X14_forStatement 57 = .ok (.astore 5, 2) := by decide +kernel
theorem d_X14_forStatement_59 : decode b_X14_forStatement 59 = .ok (.aload_n 0, 1) := by decide +kernel
theorem d_X14_forStatement_60 : decode b_X14_forStatement 60 = .ok (.aload 5, 2) := by decide +kernel
theorem d_X14_forStatement_62 : decode b_X14_forStatement 62 = .ok (.invokevirtual 398, 3) := by decide +kernel
theorem d_X14_forStatement_65 : decode b_X14_forStatement 65 = .ok (.aload_n 0, 1) := by decide +kernel
theorem d_X14_forStatement_66 : decode b_X14_forStatement 66 = .ok (.aload 5, 2) := by decide +kernel
theorem d_X14_forStatement_68 : decode b_X14_forStatement 68 = .ok (.invokestatic 431, 3) := by decide +kernel
theorem d_X14_forStatement_71 : decode b_X14_forStatement 71 = .ok (.iload_n 2, 1) := by decide +kernel
theorem d_X14_forStatement_72 : decode b_X14_forStatement 72 = .ok (.invokevirtual 410, 3) := by decide +kernel
theorem d_X14_forStatement_75 : decode b_X14_forStatement 75 = .ok (.aload_n 0, 1) := by decide +kernel
theorem d_X14_forStatement_76 : decode b_X14_forStatement 76 = .ok (.bipush 16, 2) := by decide +kernel
theorem d_X14_forStatement_78 : decode b_X14_forStatement 78 = .ok (.invokevirtual 425, 3) := by decide +kernel
theorem d_X14_forStatement_81 : decode b_X14_forStatement 81 = .ok (.istore 4, 2) := by decide +kernel
theorem d_X14_forStatement_83 : decode b_X14_forStatement 83 = .ok (.aload_n 0, 1) := by decide +kernel
theorem d_X14_forStatement_84 : decode b_X14_forStatement 84 = .ok (.bipush 27, 2) := by decide +kernel
theorem d_X14_forStatement_86 : decode b_X14_forStatement 86 = .ok (.invokevirtual 497, 3) := by decide +kernel
theorem d_X14_forStatement_89 : decode b_X14_forStatement 89 = .ok (.aload_n 0, 1) := by decide +kernel
theorem d_X14_forStatement_90 : decode b_X14_forStatement 90 = .ok (.bipush 15, 2) := by decide +kernel
theorem d_X14_forStatement_92 : decode b_X14_forStatement 92 = .ok (.invokevirtual 425, 3) := by decide +kernel
theorem d_X14_forStatement_95 : decode b_X14_forStatement 95 = .ok (.istore 5, 2) := by decide +kernel
theorem d_X14_forStatement_97 : decode b_X14_forStatement 97 = .ok (.aload_n 0, 1) := by decide +kernel
theorem d_X14_forStatement_98 : decode b_X14_forStatement 98 = .ok (.getfield 315, 3) := by decide +kernel
theorem d_X14_forStatement_101 : decode b_X14_forStatement 101 = .ok (.istore 6, 2) := by decide +kernel
theorem d_X14_forStatement_103 : decode b_X14_forStatement 103 = .ok (.aload_n 0, 1) := by decide +kernel
theorem d_X14_forStatement_104 : decode b_X14_forStatement 104 = .ok (.bipush 21, 2) := by decide +kernel
theorem d_X14_forStatement_106 : decode b_X14_forStatement 106 = .ok (.invokevirtual 308, 3) := by decide +kernel
theorem d_X14_forStatement_109 : decode b_X14_forStatement 109 = .ok (.ifCond .ne 7, 3) := by decide +kernel
theorem d_X14_forStatement_112 : decode b_X14_forStatement 112 = .ok (.aload_n 0, 1) := by decide +kernel
theorem d_X14_forStatement_113 : decode b_X14_forStatement 113 = .ok (.invokevirtual 585, 3) := by decide +kernel
theorem d_X14_forStatement_116 : decode b_X14_forStatement 116 = .ok (.aload_n 0, 1) := by decide +kernel
theorem d_X14_forStatement_117 : decode b_X14_forStatement 117 = .ok (.bipush 15, 2) := by decide +kernel
theorem d_X14_forStatement_119 : decode b_X14_forStatement 119 = .ok (.iload_n 3, 1) := by decide +kernel
theorem d_X14_forStatement_120 : decode b_X14_forStatement 120 = .ok (.invokevirtual 322, 3) := by decide +kernel
theorem d_X14_forStatement_123 : decode b_X14_forStatement 123 = .ok (.aload_n 0, 1) := by decide +kernel
theorem d_X14_forStatement_124 : decode b_X14_forStatement 124 = .ok (.bipush 21, 2) := by decide +kernel
theorem d_X14_forStatement_126 : decode b_X14_forStatement 126 = .ok (.invokevirtual 497, 3) := by decide +kernel
theorem d_X14_forStatement_129 : decode b_X14_forStatement 129 = .ok (.aload_n 0, 1) := by decide +kernel
theorem d_X14_forStatement_130 : decode b_X14_forStatement 130 = .ok (.iload 5, 2) := by decide +kernel
theorem d_X14_forStatement_132 : decode b_X14_forStatement 132 = .ok (.invokevirtual 428, 3) := by decide +kernel
theorem d_X14_forStatement_135 : decode b_X14_forStatement 135 = .ok (.aload_n 0, 1) := by decide +kernel
theorem d_X14_forStatement_136 : decode b_X14_forStatement 136 = .ok (.iload_n 1, 1) := by decide +kernel
theorem d_X14_forStatement_137 : decode b_X14_forStatement 137 = .ok (.iload_n 2, 1) := by decide +kernel
theorem d_X14_forStatement_138 : decode b_X14_forStatement 138 = .ok (.iload 6, 2) := by decide +kernel
theorem d_X14_forStatement_140 : decode b_X14_forStatement 140 = .ok (.invokevirtual 555, 3) := by decide +kernel
theorem d_X14_forStatement_143 : decode b_X14_forStatement 143 = .ok (.aload_n 0, 1) := by decide +kernel
theorem d_X14_forStatement_144 : decode b_X14_forStatement 144 = .ok (.getfield 558, 3) := by decide +kernel
theorem d_X14_forStatement_147 : decode b_X14_forStatement 147 = .ok (.istore 7, 2) := by decide +kernel
theorem d_X14_forStatement_149 : decode b_X14_forStatement 149 = .ok (.aload_n 0, 1) := by decide +kernel
theorem d_X14_forStatement_150 : decode b_X14_forStatement 150 = .ok (.aload_n 0, 1) := by decide +kernel
theorem d_X14_forStatement_151 : decode b_X14_forStatement 151 = .ok (.getfield 561, 3) := by decide +kernel
theorem d_X14_forStatement_154 : decode b_X14_forStatement 154 = .ok (.putfield 558, 3) := by decide +kernel
theorem d_X14_forStatement_157 : decode b_X14_forStatement 157 = .ok (.aload_n 0, 1) := by decide +kernel
theorem d_X14_forStatement_158 : decode b_X14_forStatement 158 = .ok (.bipush 15, 2) := by decide +kernel
theorem d_X14_forStatement_160 : decode b_X14_forStatement 160 = .ok (.iload 6, 2) := by decide +kernel
theorem d_X14_forStatement_162 : decode b_X14_forStatement 162 = .ok (.invokevirtual 322, 3) := by decide +kernel
theorem d_X14_forStatement_165 : decode b_X14_forStatement 165 = .ok (.iload 4, 2) := by decide +kernel
theorem d_X14_forStatement_167 : decode b_X14_forStatement 167 = .ok (.ifCond .lt 9, 3) := by decide +kernel
theorem d_X14_forStatement_170 : decode b_X14_forStatement 170 = .ok (.aload_n 0, 1) := by decide +kernel
theorem d_X14_forStatement_171 : decode b_X14_forStatement 171 = .ok (.iload 4, 2) := by decide +kernel
theorem d_X14_forStatement_173 : decode b_X14_forStatement 173 = .ok (.invokevirtual 428, 3) := by decide +kernel
theorem d_X14_forStatement_176 : decode b_X14_forStatement 176 = .ok (.aload_n 0, 1) := by decide +kernel
theorem d_X14_forStatement_177 : decode b_X14_forStatement 177 = .ok (.iload 7, 2) := by decide +kernel
theorem d_X14_forStatement_179 : decode b_X14_forStatement 179 = .ok (.aload_n 0, 1) := by decide +kernel
theorem d_X14_forStatement_180 : decode b_X14_forStatement 180 = .ok (.getfield 315, 3) := by decide +kernel
theorem d_X14_forStatement_183 : decode b_X14_forStatement 183 = .ok (.invokevirtual 564, 3) := by decide +kernel
theorem d_X14_forStatement_186 : decode b_X14_forStatement 186 = .ok (.return_, 1) := by decide +kernel
theorem d_X14_function_0 : decode b_X14_function 0 = .ok (.aload_n 0, 1) := by decide +kernel
theorem d_X14_function_1 : decode b_X14_function 1 = .ok (.invokevirtual 650, 3) := by decide +kernel
theorem d_X14_function_4 : decode b_X14_function 4 = .ok (.aload_n 0, 1) := by decide +kernel
theorem d_X14_function_5 : decode b_X14_function 5 = .ok (.bipush 22, 2) := by decide +kernel
theorem d_X14_function_7 : decode b_X14_function 7 = .ok (.invokevirtual 308, 3) := by decide +kernel
theorem d_X14_function_10 : decode b_X14_function 10 = .ok (.istore 4, 2) := by decide +kernel
theorem d_X14_function_12 : decode b_X14_function 12 = .ok (.aload_n 0, 1) := by decide +kernel
theorem d_X14_function_13 : decode b_X14_function 13 = .ok (.iload_n 1, 1) := by decide +kernel
theorem d_X14_function_14 : decode b_X14_function 14 = .ok (.invokevirtual 527, 3) := by decide +kernel
theorem d_X14_function_17 : decode b_X14_function 17 = .ok (.istore 5, 2) := by decide +kernel
theorem d_X14_function_19 : decode b_X14_function 19 = .ok (.iload 5, 2) := by decide +kernel
theorem d_X14_function_21 : decode b_X14_function 21 = .ok (.ifCond .lt 63, 3) := by decide +kernel
theorem d_X14_function_24 : decode b_X14_function 24 = .ok (.aload_n 0, 1) := by decide +kernel
theorem d_X14_function_25 : decode b_X14_function 25 = .ok (.aload_n 0, 1) := by decide +kernel
theorem d_X14_function_26 : decode b_X14_function 26 = .ok (.getfield 44, 3) := by decide +kernel
theorem d_X14_function_29 : decode b_X14_function 29 = .ok (.iload 5, 2) := by decide +kernel
theorem d_X14_function_31 : decode b_X14_function 31 = .ok (.iaload, 1) := by decide +kernel
theorem d_X14_function_32 : decode b_X14_function 32 = .ok (.iconst 2, 1) := by decide +kernel
theorem d_X14_function_33 : decode b_X14_function 33 = .ok (.if_icmp .ne 43, 3) := by decide +kernel
theorem d_X14_function_36 : decode b_X14_function 36 = .ok (.aload_n 0, 1) := by decide +kernel
theorem d_X14_function_37 : decode b_X14_function 37 = .ok (.iload 5, 2) := by decide +kernel
theorem d_X14_function_39 : decode b_X14_function 39 = .ok (.iload_n 2, 1) := by decide +kernel
theorem d_X14_function_40 : decode b_X14_function 40 = .ok (.invokevirtual 653, 3) := by decide +kernel
theorem d_X14_function_43 : decode b_X14_function 43 = .ok (.ifCond .eq 33, 3) := by decide +kernel
theorem d_X14_function_46 : decode b_X14_function 46 = .ok (.aload_n 0, 1) := by decide +kernel
theorem d_X14_function_47 : decode b_X14_function 47 = .ok (.getfield 53, 3) := by decide +kernel
theorem d_X14_function_50 : decode b_X14_function 50 = .ok (.iload 5, 2) := by decide +kernel
theorem d_X14_function_52 : decode b_X14_function 52 = .ok (.baload, 1) := by decide +kernel
theorem d_X14_function_53 : decode b_X14_function 53 = .ok (.iload_n 3, 1) := by decide +kernel
theorem d_X14_function_54 : decode b_X14_function 54 = .ok (.if_icmp .ne 22, 3) := by decide +kernel
theorem d_X14_function_57 : decode b_X14_function 57 = .ok (.iload 4, 2) := by decide +kernel
theorem d_X14_function_59 : decode b_X14_function 59 = .ok (.ifCond .eq 13, 3) := by decide +kernel
theorem d_X14_function_62 : decode b_X14_function 62 = .ok (.aload_n 0, 1) := by decide +kernel
theorem d_X14_function_63 : decode b_X14_function 63 = .ok (.getfield 57, 3) := by decide +kernel
theorem d_X14_function_66 : decode b_X14_function 66 = .ok (.iload 5, 2) := by decide +kernel
theorem d_X14_function_68 : decode b_X14_function 68 = .ok (.baload, 1) := by decide +kernel
theorem d_X14_function_69 : decode b_X14_function 69 = .ok (.ifCond .ne 7, 3) := by decide +kernel
theorem d_X14_function_72 : decode b_X14_function 72 = .ok (.iconst 1, 1) := by decide +kernel
theorem d_X14_function_73 : decode b_X14_function 73 = .ok (.goto 4, 3) := by decide +kernel
theorem d_X14_function_76 : decode b_X14_function 76 = .ok (.iconst 0, 1) := by decide +kernel
theorem d_X14_function_77 : decode b_X14_function 77 = .ok (.iload_n 1, 1) := by decide +kernel
theorem d_X14_function_78 : decode b_X14_function 78 = .ok (.invokevirtual 410, 3) := by decide +kernel
theorem d_X14_function_81 : decode b_X14_function 81 = .ok (.goto 81, 3) := by decide +kernel
theorem d_X14_function_84 : decode b_X14_function 84 = .ok (.aload_n 0, 1) := by decide +kernel
theorem d_X14_function_85 : decode b_X14_function 85 = .ok (.iload_n 1, 1) := by decide +kernel
theorem d_X14_function_86 : decode b_X14_function 86 = .ok (.iconst 2, 1) := by decide +kernel
theorem d_X14_function_87 : decode b_X14_function 87 = .ok (.invokevirtual 631, 3) := by decide +kernel
theorem d_X14_function_90 : decode b_X14_function 90 = .ok (.istore 5, 2) := by decide +kernel
theorem d_X14_function_92 : decode b_X14_function 92 = .ok (.iload 5, 2) := by decide +kernel
theorem d_X14_function_94 : decode b_X14_function 94 = .ok (.ifCond .lt 68, 3) := by decide +kernel
theorem d_X14_function_97 : decode b_X14_function 97 = .ok (.aload_n 0, 1) := by decide +kernel
theorem d_X14_function_98 : decode b_X14_function 98 = .ok (.getfield 47, 3) := by decide +kernel
theorem d_X14_function_101 : decode b_X14_function 101 = .ok (.iload 5, 2) := by decide +kernel
theorem d_X14_function_103 : decode b_X14_function 103 = .ok (.iload_n 2, 1) := by decide +kernel
theorem d_X14_function_104 : decode b_X14_function 104 = .ok (.iastore, 1) := by decide +kernel
theorem d_X14_function_105 : decode b_X14_function 105 = .ok (.aload_n 0, 1) := by decide +kernel
theorem d_X14_function_106 : decode b_X14_function 106 = .ok (.getfield 53, 3) := by decide +kernel
theorem d_X14_function_109 : decode b_X14_function 109 = .ok (.iload 5, 2) := by decide +kernel
theorem d_X14_function_111 : decode b_X14_function 111 = .ok (.iload_n 3, 1) := by decide +kernel
theorem d_X14_function_112 : decode b_X14_function 112 = .ok (.bastore, 1) := by decide +kernel
theorem d_X14_function_113 : decode b_X14_function 113 = .ok (.aload_n 0, 1) := by decide +kernel
theorem d_X14_function_114 : decode b_X14_function 114 = .ok (.getfield 63, 3) := by decide +kernel
theorem d_X14_function_117 : decode b_X14_function 117 = .ok (.iload 5, 2) := by decide +kernel
theorem d_X14_function_119 : decode b_X14_function 119 = .ok (.aload_n 0, 1) := by decide +kernel
theorem d_X14_function_120 : decode b_X14_function 120 = .ok (.getfield 647, 3) := by decide +kernel
theorem d_X14_function_123 : decode b_X14_function 123 = .ok (.iastore, 1) := by decide +kernel
theorem d_X14_function_124 : decode b_X14_function 124 = .ok (.iconst 0, 1) := by decide +kernel
theorem d_X14_function_125 : decode b_X14_function 125 = .ok (.istore 6, 2) := by decide +kernel
theorem d_X14_function_127 : decode b_X14_function 127 = .ok (.iload 6, 2) := by decide +kernel
theorem d_X14_function_129 : decode b_X14_function 129 = .ok (.aload_n 0, 1) := by decide +kernel
theorem d_X14_function_130 : decode b_X14_function 130 = .ok (.getfield 647, 3) := by decide +kernel
theorem d_X14_function_133 : decode b_X14_function 133 = .ok (.if_icmp .ge 29, 3) := by decide +kernel
theorem d_X14_function_136 : decode b_X14_function 136 = .ok (.aload_n 0, 1) := by decide +kernel
theorem d_X14_function_137 : decode b_X14_function 137 = .ok (.getfield 67, 3) := by decide +kernel
theorem d_X14_function_140 : decode b_X14_function 140 = .ok (.bipush 8, 2) := by decide +kernel
theorem d_X14_function_142 : decode b_X14_function 142 = .ok (.iload 5, 2) := by decide +kernel
theorem d_X14_function_144 : decode b_X14_function 144 = .ok (.imul, 1) := by decide +kernel
theorem d_X14_function_145 : decode b_X14_function 145 = .ok (.iload 6, 2) := by decide +kernel
theorem d_X14_function_147 : decode b_X14_function 147 = .ok (.iadd, 1) := by decide +kernel
theorem d_X14_function_148 : decode b_X14_function 148 = .ok (.aload_n 0, 1) := by decide +kernel
theorem d_X14_function_149 : decode b_X14_function 149 = .ok (.getfield 132, 3) := by decide +kernel
theorem d_X14_function_152 : decode b_X14_function 152 = .ok (.iload 6, 2) := by decide +kernel
theorem d_X14_function_154 : decode b_X14_function 154 = .ok (.iaload, 1) := by decide +kernel
theorem d_X14_function_155 : decode b_X14_function 155 = .ok (.iastore, 1) := by decide +kernel
theorem d_X14_function_156 : decode b_X14_function 156 = .ok (.iinc 6 1, 3) := by decide +kernel
theorem d_X14_function_159 : decode b_X14_function 159 = .ok (.goto (-32), 3) := by decide +kernel
theorem d_X14_function_162 : decode b_X14_function 162 = .ok (.iload 4, 2) := by decide +kernel
theorem d_X14_function_164 : decode b_X14_function 164 = .ok (.ifCond .ne 10, 3) := by decide +kernel
theorem d_X14_function_167 : decode b_X14_function 167 = .ok (.aload_n 0, 1) := by decide +kernel
theorem d_X14_function_168 : decode b_X14_function 168 = .ok (.bipush 27, 2) := by decide +kernel
theorem d_X14_function_170 : decode b_X14_function 170 = .ok (.invokevirtual 497, 3) := by decide +kernel
theorem d_X14_function_173 : decode b_X14_function 173 = .ok (.return_, 1) := by decide +kernel
theorem d_X14_function_174 : decode b_X14_function 174 = .ok (.iload 5, 2) := by decide +kernel
theorem d_X14_function_176 : decode b_X14_function 176 = .ok (.ifCond .lt 33, 3) := by decide +kernel
theorem d_X14_function_179 : decode b_X14_function 179 = .ok (.aload_n 0, 1) := by decide +kernel
theorem d_X14_function_180 : decode b_X14_function 180 = .ok (.getfield 44, 3) := by decide +kernel
theorem d_X14_function_183 : decode b_X14_function 183 = .ok (.iload 5, 2) := by decide +kernel
theorem d_X14_function_185 : decode b_X14_function 185 = .ok (.iaload, 1) := by decide +kernel
theorem d_X14_function_186 : decode b_X14_function 186 = .ok (.iconst 2, 1) := by decide +kernel
theorem d_X14_function_187 : decode b_X14_function 187 = .ok (.if_icmp .ne 22, 3) := by decide +kernel
theorem d_X14_function_190 : decode b_X14_function 190 = .ok (.aload_n 0, 1) := by decide +kernel
theorem d_X14_function_191 : decode b_X14_function 191 = .ok (.getfield 57, 3) := by decide +kernel
theorem d_X14_function_194 : decode b_X14_function 194 = .ok (.iload 5, 2) := by decide +kernel
theorem d_X14_function_196 : decode b_X14_function 196 = .ok (.iconst 1, 1) := by decide +kernel
theorem d_X14_function_197 : decode b_X14_function 197 = .ok (.bastore, 1) := by decide +kernel
theorem d_X14_function_198 : decode b_X14_function 198 = .ok (.aload_n 0, 1) := by decide +kernel
theorem d_X14_function_199 : decode b_X14_function 199 = .ok (.getfield 70, 3) := by decide +kernel
theorem d_X14_function_202 : decode b_X14_function 202 = .ok (.iload 5, 2) := by decide +kernel
theorem d_X14_function_204 : decode b_X14_function 204 = .ok (.aload_n 0, 1) := by decide +kernel
theorem d_X14_function_205 : decode b_X14_function 205 = .ok (.getfield 656, 3) := by decide +kernel
theorem d_X14_function_208 : decode b_X14_function 208 = .ok (.iastore, 1) := by decide +kernel
theorem d_X14_function_209 : decode b_X14_function 209 = .ok (.aload_n 0, 1) := by decide +kernel
theorem d_X14_function_210 : decode b_X14_function 210 = .ok (.iconst 0, 1) := by decide +kernel
theorem d_X14_function_211 : decode b_X14_function 211 = .ok (.putfield 349, 3) := by decide +kernel
theorem d_X14_function_214 : decode b_X14_function 214 = .ok (.aload_n 0, 1) := by decide +kernel
theorem d_X14_function_215 : decode b_X14_function 215 = .ok (.iconst 0, 1) := by decide +kernel
theorem d_X14_function_216 : decode b_X14_function 216 = .ok (.putfield 340, 3) := by decide +kernel
theorem d_X14_function_219 : decode b_X14_function 219 = .ok (.aload_n 0, 1) := by decide +kernel
theorem d_X14_function_220 : decode b_X14_function 220 = .ok (.iconst 1, 1) := by decide +kernel
theorem d_X14_function_221 : decode b_X14_function 221 = .ok (.putfield 346, 3) := by decide +kernel
theorem d_X14_function_224 : decode b_X14_function 224 = .ok (.aload_n 0, 1) := by decide +kernel
theorem d_X14_function_225 : decode b_X14_function 225 = .ok (.aload_n 0, 1) := by decide +kernel
theorem d_X14_function_226 : decode b_X14_function 226 = .ok (.getfield 647, 3) := by decide +kernel
theorem d_X14_function_229 : decode b_X14_function 229 = .ok (.putfield 659, 3) := by decide +kernel
theorem d_X14_function_232 : decode b_X14_function 232 = .ok (.iconst 0, 1) := by decide +kernel
theorem d_X14_function_233 : decode b_X14_function 233 = .ok (.istore 6, 2) := by decide +kernel
theorem d_X14_function_235 : decode b_X14_function 235 = .ok (.iload 6, 2) := by decide +kernel
theorem d_X14_function_237 : decode b_X14_function 237 = .ok (.aload_n 0, 1) := by decide +kernel
theorem d_X14_function_238 : decode b_X14_function 238 = .ok (.getfield 647, 3) := by decide +kernel
theorem d_X14_function_241 : decode b_X14_function 241 = .ok (.if_icmp .ge 116, 3) := by decide +kernel
theorem d_X14_function_244 : decode b_X14_function 244 = .ok (.aload_n 0, 1) := by decide +kernel
theorem d_X14_function_245 : decode b_X14_function 245 = .ok (.getfield 135, 3) := by decide +kernel
theorem d_X14_function_248 : decode b_X14_function 248 = .ok (.iload 6, 2) := by decide +kernel
theorem d_X14_function_250 : decode b_X14_function 250 = .ok (.iaload, 1) := by decide +kernel
theorem d_X14_function_251 : decode b_X14_function 251 = .ok (.ifCond .ge 37, 3) := by decide +kernel
theorem d_X14_function_254 : decode b_X14_function 254 = .ok (.aload_n 0, 1) := by decide +kernel
theorem d_X14_function_255 : decode b_X14_function 255 = .ok (.iconst 2, 1) := by decide +kernel
theorem d_X14_function_256 : decode b_X14_function 256 = .ok (.aload_n 0, 1) := by decide +kernel
theorem d_X14_function_257 : decode b_X14_function 257 = .ok (.getfield 138, 3) := by decide +kernel
theorem d_X14_function_260 : decode b_X14_function 260 = .ok (.iload 6, 2) := by decide +kernel
theorem d_X14_function_262 : decode b_X14_function 262 = .ok (.iaload, 1) := by decide +kernel
theorem d_X14_function_263 : decode b_X14_function 263 = .ok (.invokevirtual 304, 3) := by decide +kernel
theorem d_X14_function_266 : decode b_X14_function 266 = .ok (.aload_n 0, 1) := by decide +kernel
theorem d_X14_function_267 : decode b_X14_function 267 = .ok (.aload_n 0, 1) := by decide +kernel
theorem d_X14_function_268 : decode b_X14_function 268 = .ok (.getfield 138, 3) := by decide +kernel
theorem d_X14_function_271 : decode b_X14_function 271 = .ok (.iload 6, 2) := by decide +kernel
theorem d_X14_function_273 : decode b_X14_function 273 = .ok (.iaload, 1) := by decide +kernel
theorem d_X14_function_274 : decode b_X14_function 274 = .ok (.aload_n 0, 1) := by decide +kernel
theorem d_X14_function_275 : decode b_X14_function 275 = .ok (.getfield 132, 3) := by decide +kernel
theorem d_X14_function_278 : decode b_X14_function 278 = .ok (.iload 6, 2) := by decide +kernel
theorem d_X14_function_280 : decode b_X14_function 280 = .ok (.iaload, 1) := by decide +kernel
theorem d_X14_function_281 : decode b_X14_function 281 = .ok (.invokevirtual 628, 3) := by decide +kernel
theorem d_X14_function_284 : decode b_X14_function 284 = .ok (.pop, 1) := by decide +kernel
theorem d_X14_function_285 : decode b_X14_function 285 = .ok (.goto 66, 3) := by decide +kernel
theorem d_X14_function_288 : decode b_X14_function 288 = .ok (.aload_n 0, 1) := by decide +kernel
theorem d_X14_function_289 : decode b_X14_function 289 = .ok (.aload_n 0, 1) := by decide +kernel
theorem d_X14_function_290 : decode b_X14_function 290 = .ok (.aload_n 0, 1) := by decide +kernel
theorem d_X14_function_291 : decode b_X14_function 291 = .ok (.getfield 135, 3) := by decide +kernel
theorem d_X14_function_294 : decode b_X14_function 294 = .ok (.iload 6, 2) := by decide +kernel
theorem d_X14_function_296 : decode b_X14_function 296 = .ok (.iaload, 1) := by decide +kernel
theorem d_X14_function_297 : decode b_X14_function 297 = .ok (.invokevirtual 625, 3) := by decide +kernel
theorem d_X14_function_300 : decode b_X14_function 300 = .ok (.ifCond .ne 7, 3) := by decide +kernel
theorem d_X14_function_303 : decode b_X14_function 303 = .ok (.iconst 1, 1) := by decide +kernel
theorem d_X14_function_304 : decode b_X14_function 304 = .ok (.goto 4, 3) := by decide +kernel
theorem d_X14_function_307 : decode b_X14_function 307 = .ok (.iconst 0, 1) := by decide +kernel
theorem d_X14_function_308 : decode b_X14_function 308 = .ok (.aload_n 0, 1) := by decide +kernel
theorem d_X14_function_309 : decode b_X14_function 309 = .ok (.getfield 135, 3) := by decide +kernel
theorem d_X14_function_312 : decode b_X14_function 312 = .ok (.iload 6, 2) := by decide +kernel
theorem d_X14_function_314 : decode b_X14_function 314 = .ok (.iaload, 1) := by decide +kernel
theorem d_X14_function_315 : decode b_X14_function 315 = .ok (.invokevirtual 410, 3) := by decide +kernel
theorem d_X14_function_318 : decode b_X14_function 318 = .ok (.aload_n 0, 1) := by decide +kernel
theorem d_X14_function_319 : decode b_X14_function 319 = .ok (.aload_n 0, 1) := by decide +kernel
theorem d_X14_function_320 : decode b_X14_function 320 = .ok (.getfield 135, 3) := by decide +kernel
theorem d_X14_function_323 : decode b_X14_function 323 = .ok (.iload 6, 2) := by decide +kernel
theorem d_X14_function_325 : decode b_X14_function 325 = .ok (.iaload, 1) := by decide +kernel
theorem d_X14_function_326 : decode b_X14_function 326 = .ok (.aload_n 0, 1) := by decide +kernel
theorem d_X14_function_327 : decode b_X14_function 327 = .ok (.getfield 132, 3) := by decide +kernel
theorem d_X14_function_330 : decode b_X14_function 330 = .ok (.iload 6, 2) := by decide +kernel
theorem d_X14_function_332 : decode b_X14_function 332 = .ok (.iaload, 1) := by decide +kernel
theorem d_X14_function_333 : decode b_X14_function 333 = .ok (.invokevirtual 628, 3) := by decide +kernel
theorem d_X14_function_336 : decode b_X14_function 336 = .ok (.istore 7, 2) := by decide +kernel
theorem d_X14_function_338 : decode b_X14_function 338 = .ok (.aload_n 0, 1) := by decide +kernel
theorem d_X14_function_339 : decode b_X14_function 339 = .ok (.aload_n 0, 1) := by decide +kernel
theorem d_X14_function_340 : decode b_X14_function 340 = .ok (.getfield 135, 3) := by decide +kernel
theorem d_X14_function_343 : decode b_X14_function 343 = .ok (.iload 6, 2) := by decide +kernel
theorem d_X14_function_345 : decode b_X14_function 345 = .ok (.iaload, 1) := by decide +kernel
theorem d_X14_function_346 : decode b_X14_function 346 = .ok (.iload 7, 2) := by decide +kernel
theorem d_X14_function_348 : decode b_X14_function 348 = .ok (.invokevirtual 614, 3) := by decide +kernel
theorem d_X14_function_351 : decode b_X14_function 351 = .ok (.iinc 6 1, 3) := by decide +kernel
theorem d_X14_function_354 : decode b_X14_function 354 = .ok (.goto (-119), 3) := by decide +kernel
theorem d_X14_function_357 : decode b_X14_function 357 = .ok (.aload_n 0, 1) := by decide +kernel
theorem d_X14_function_358 : decode b_X14_function 358 = .ok (.iload_n 2, 1) := by decide +kernel
theorem d_X14_function_359 : decode b_X14_function 359 = .ok (.invokevirtual 662, 3) := by decide +kernel
theorem d_X14_function_362 : decode b_X14_function 362 = .ok (.return_, 1) := by decide +kernel
theorem d_X14_getLocal_0 : decode b_X14_getLocal 0 = .ok (.aload_n 0, 1) := by decide +kernel
theorem d_X14_getLocal_1 : decode b_X14_getLocal 1 = .ok (.getfield 41, 3) := by decide +kernel
theorem d_X14_getLocal_4 : decode b_X14_getLocal 4 = .ok (.aload_n 0, 1) := by decide +kernel
theorem d_X14_getLocal_5 : decode b_X14_getLocal 5 = .ok (.iload_n 1, 1) := by decide +kernel
theorem d_X14_getLocal_6 : decode b_X14_getLocal 6 = .ok (.invokevirtual 793, 3) := by decide +kernel
theorem d_X14_getLocal_9 : decode b_X14_getLocal 9 = .ok (.iaload, 1) := by decide +kernel
theorem d_X14_getLocal_10 : decode b_X14_getLocal 10 = .ok (.istore_n 2, 1) := by decide +kernel
theorem d_X14_getLocal_11 : decode b_X14_getLocal 11 = .ok (.iload_n 2, 1) := by decide +kernel
theorem d_X14_getLocal_12 : decode b_X14_getLocal 12 = .ok (.ifCond .lt 24, 3) := by decide +kernel
theorem d_X14_getLocal_15 : decode b_X14_getLocal 15 = .ok (.aload_n 0, 1) := by decide +kernel
theorem d_X14_getLocal_16 : decode b_X14_getLocal 16 = .ok (.getfield 169, 3) := by decide +kernel
theorem d_X14_getLocal_19 : decode b_X14_getLocal 19 = .ok (.aload_n 0, 1) := by decide +kernel
theorem d_X14_getLocal_20 : decode b_X14_getLocal 20 = .ok (.getfield 179, 3) := by decide +kernel
theorem d_X14_getLocal_23 : decode b_X14_getLocal 23 = .ok (.aload_n 0, 1) := by decide +kernel
theorem d_X14_getLocal_24 : decode b_X14_getLocal 24 = .ok (.getfield 771, 3) := by decide +kernel
theorem d_X14_getLocal_27 : decode b_X14_getLocal 27 = .ok (.iconst 1, 1) := by decide +kernel
theorem d_X14_getLocal_28 : decode b_X14_getLocal 28 = .ok (.isub, 1) := by decide +kernel
theorem d_X14_getLocal_29 : decode b_X14_getLocal 29 = .ok (.iaload, 1) := by decide +kernel
theorem d_X14_getLocal_30 : decode b_X14_getLocal 30 = .ok (.iload_n 2, 1) := by decide +kernel
theorem d_X14_getLocal_31 : decode b_X14_getLocal 31 = .ok (.iadd, 1) := by decide +kernel
theorem d_X14_getLocal_32 : decode b_X14_getLocal 32 = .ok (.iaload, 1) := by decide +kernel
theorem d_X14_getLocal_33 : decode b_X14_getLocal 33 = .ok (.goto 19, 3) := by decide +kernel
theorem d_X14_getLocal_36 : decode b_X14_getLocal 36 = .ok (.aload_n 0, 1) := by decide +kernel
theorem d_X14_getLocal_37 : decode b_X14_getLocal 37 = .ok (.getfield 176, 3) := by decide +kernel
theorem d_X14_getLocal_40 : decode b_X14_getLocal 40 = .ok (.aload_n 0, 1) := by decide +kernel
theorem d_X14_getLocal_41 : decode b_X14_getLocal 41 = .ok (.getfield 771, 3) := by decide +kernel
theorem d_X14_getLocal_44 : decode b_X14_getLocal 44 = .ok (.iconst 1, 1) := by decide +kernel
theorem d_X14_getLocal_45 : decode b_X14_getLocal 45 = .ok (.isub, 1) := by decide +kernel
theorem d_X14_getLocal_46 : decode b_X14_getLocal 46 = .ok (.bipush 100, 2) := by decide +kernel
theorem d_X14_getLocal_48 : decode b_X14_getLocal 48 = .ok (.imul, 1) := by decide +kernel
theorem d_X14_getLocal_49 : decode b_X14_getLocal 49 = .ok (.iload_n 1, 1) := by decide +kernel
theorem d_X14_getLocal_50 : decode b_X14_getLocal 50 = .ok (.iadd, 1) := by decide +kernel
theorem d_X14_getLocal_51 : decode b_X14_getLocal 51 = .ok (.iaload, 1) := by decide +kernel
theorem d_X14_getLocal_52 : decode b_X14_getLocal 52 = .ok (.ireturn, 1) := by decide +kernel
theorem d_X14_globalName_0 : decode b_X14_globalName 0 = .ok (.aload_n 0, 1) := by decide +kernel
theorem d_X14_globalName_1 : decode b_X14_globalName 1 = .ok (.iload_n 1, 1) := by decide +kernel
theorem d_X14_globalName_2 : decode b_X14_globalName 2 = .ok (.invokevirtual 527, 3) := by decide +kernel
theorem d_X14_globalName_5 : decode b_X14_globalName 5 = .ok (.istore 6, 2) := by decide +kernel
theorem d_X14_globalName_7 : decode b_X14_globalName 7 = .ok (.iload 6, 2) := by decide +kernel
theorem d_X14_globalName_9 : decode b_X14_globalName 9 = .ok (.ifCond .ge 46, 3) := by decide +kernel
theorem d_X14_globalName_12 : decode b_X14_globalName 12 = .ok (.aload_n 0, 1) := by decide +kernel
theorem d_X14_globalName_13 : decode b_X14_globalName 13 = .ok (.iload_n 1, 1) := by decide +kernel
theorem d_X14_globalName_14 : decode b_X14_globalName 14 = .ok (.iconst 1, 1) := by decide +kernel
theorem d_X14_globalName_15 : decode b_X14_globalName 15 = .ok (.invokevirtual 631, 3) := by decide +kernel
theorem d_X14_globalName_18 : decode b_X14_globalName 18 = .ok (.istore 6, 2) := by decide +kernel
theorem d_X14_globalName_20 : decode b_X14_globalName 20 = .ok (.iload 6, 2) := by decide +kernel
theorem d_X14_globalName_22 : decode b_X14_globalName 22 = .ok (.ifCond .ge 5, 3) := by decide +kernel
theorem d_X14_globalName_25 : decode b_X14_globalName 25 = .ok (.iconst (-1), 1) := by decide +kernel
theorem d_X14_globalName_26 : decode b_X14_globalName 26 = .ok (.ireturn, 1) := by decide +kernel
theorem d_X14_globalName_27 : decode b_X14_globalName 27 = .ok (.aload_n 0, 1) := by decide +kernel
theorem d_X14_globalName_28 : decode b_X14_globalName 28 = .ok (.getfield 47, 3) := by decide +kernel
theorem d_X14_globalName_31 : decode b_X14_globalName 31 = .ok (.iload 6, 2) := by decide +kernel
theorem d_X14_globalName_33 : decode b_X14_globalName 33 = .ok (.iload_n 2, 1) := by decide +kernel
theorem d_X14_globalName_34 : decode b_X14_globalName 34 = .ok (.iastore, 1) := by decide +kernel
theorem d_X14_globalName_35 : decode b_X14_globalName 35 = .ok (.aload_n 0, 1) := by decide +kernel
theorem d_X14_globalName_36 : decode b_X14_globalName 36 = .ok (.getfield 50, 3) := by decide +kernel
theorem d_X14_globalName_39 : decode b_X14_globalName 39 = .ok (.iload 6, 2) := by decide +kernel
theorem d_X14_globalName_41 : decode b_X14_globalName 41 = .ok (.iload_n 3, 1) := by decide +kernel
theorem d_X14_globalName_42 : decode b_X14_globalName 42 = .ok (.iastore, 1) := by decide +kernel
theorem d_X14_globalName_43 : decode b_X14_globalName 43 = .ok (.aload_n 0, 1) := by decide +kernel
theorem d_X14_globalName_44 : decode b_X14_globalName 44 = .ok (.getfield 53, 3) := by decide +kernel
theorem d_X14_globalName_47 : decode b_X14_globalName 47 = .ok (.iload 6, 2) := by decide +kernel
theorem d_X14_globalName_49 : decode b_X14_globalName 49 = .ok (.iload 4, 2) := by decide +kernel
theorem d_X14_globalName_51 : decode b_X14_globalName 51 = .ok (.bastore, 1) := by decide +kernel
theorem d_X14_globalName_52 : decode b_X14_globalName 52 = .ok (.iload 6, 2) := by decide +kernel
theorem d_X14_globalName_54 : decode b_X14_globalName 54 = .ok (.ireturn, 1) := by decide +kernel
theorem d_X14_globalName_55 : decode b_X14_globalName 55 = .ok (.aload_n 0, 1) := by decide +kernel
theorem d_X14_globalName_56 : decode b_X14_globalName 56 = .ok (.getfield 44, 3) := by decide +kernel
theorem d_X14_globalName_59 : decode b_X14_globalName 59 = .ok (.iload 6, 2) := by decide +kernel
theorem d_X14_globalName_61 : decode b_X14_globalName 61 = .ok (.iaload, 1) := by decide +kernel
theorem d_X14_globalName_62 : decode b_X14_globalName 62 = .ok (.iconst 1, 1) := by decide +kernel
theorem d_X14_globalName_63 : decode b_X14_globalName 63 = .ok (.if_icmp .ne 70, 3) := by decide +kernel
theorem d_X14_globalName_66 : decode b_X14_globalName 66 = .ok (.aload_n 0, 1) := by decide +kernel
theorem d_X14_globalName_67 : decode b_X14_globalName 67 = .ok (.getfield 47, 3) := by decide +kernel
theorem d_X14_globalName_70 : decode b_X14_globalName 70 = .ok (.iload 6, 2) := by decide +kernel
theorem d_X14_globalName_72 : decode b_X14_globalName 72 = .ok (.iaload, 1) := by decide +kernel
theorem d_X14_globalName_73 : decode b_X14_globalName 73 = .ok (.iload_n 2, 1) := by decide +kernel
theorem d_X14_globalName_74 : decode b_X14_globalName 74 = .ok (.if_icmp .ne 59, 3) := by decide +kernel
theorem d_X14_globalName_77 : decode b_X14_globalName 77 = .ok (.aload_n 0, 1) := by decide +kernel
theorem d_X14_globalName_78 : decode b_X14_globalName 78 = .ok (.getfield 50, 3) := by decide +kernel
theorem d_X14_globalName_81 : decode b_X14_globalName 81 = .ok (.iload 6, 2) := by decide +kernel
theorem d_X14_globalName_83 : decode b_X14_globalName 83 = .ok (.iaload, 1) := by decide +kernel
theorem d_X14_globalName_84 : decode b_X14_globalName 84 = .ok (.ifCond .ge 7, 3) := by decide +kernel
theorem d_X14_globalName_87 : decode b_X14_globalName 87 = .ok (.iconst 1, 1) := by decide +kernel
theorem d_X14_globalName_88 : decode b_X14_globalName 88 = .ok (.goto 4, 3) := by decide +kernel
theorem d_X14_globalName_91 : decode b_X14_globalName 91 = .ok (.iconst 0, 1) := by decide +kernel
theorem d_X14_globalName_92 : decode b_X14_globalName 92 = .ok (.iload_n 3, 1) := by decide +kernel
theorem d_X14_globalName_93 : decode b_X14_globalName 93 = .ok (.ifCond .ge 7, 3) := by decide +kernel
theorem d_X14_globalName_96 : decode b_X14_globalName 96 = .ok (.iconst 1, 1) := by decide +kernel
theorem d_X14_globalName_97 : decode b_X14_globalName 97 = .ok (.goto 4, 3) := by decide +kernel
theorem d_X14_globalName_100 : decode b_X14_globalName 100 = .ok (.iconst 0, 1) := by decide +kernel
theorem d_X14_globalName_101 : decode b_X14_globalName 101 = .ok (.if_icmp .ne 32, 3) := by decide +kernel
theorem d_X14_globalName_104 : decode b_X14_globalName 104 = .ok (.iload_n 3, 1) := by decide +kernel
theorem d_X14_globalName_105 : decode b_X14_globalName 105 = .ok (.ifCond .le 24, 3) := by decide +kernel
theorem d_X14_globalName_108 : decode b_X14_globalName 108 = .ok (.aload_n 0, 1) := by decide +kernel
theorem d_X14_globalName_109 : decode b_X14_globalName 109 = .ok (.getfield 50, 3) := by decide +kernel
theorem d_X14_globalName_112 : decode b_X14_globalName 112 = .ok (.iload 6, 2) := by decide +kernel
theorem d_X14_globalName_114 : decode b_X14_globalName 114 = .ok (.iaload, 1) := by decide +kernel
theorem d_X14_globalName_115 : decode b_X14_globalName 115 = .ok (.ifCond .eq 14, 3) := by decide +kernel
theorem d_X14_globalName_118 : decode b_X14_globalName 118 = .ok (.aload_n 0, 1) := by decide +kernel
theorem d_X14_globalName_119 : decode b_X14_globalName 119 = .ok (.getfield 50, 3) := by decide +kernel
theorem d_X14_globalName_122 : decode b_X14_globalName 122 = .ok (.iload 6, 2) := by decide +kernel
theorem d_X14_globalName_124 : decode b_X14_globalName 124 = .ok (.iaload, 1) := by decide +kernel
theorem d_X14_globalName_125 : decode b_X14_globalName 125 = .ok (.iload_n 3, 1) := by decide +kernel
theorem d_X14_globalName_126 : decode b_X14_globalName 126 = .ok (.if_icmp .ne 7, 3) := by decide +kernel
theorem d_X14_globalName_129 : decode b_X14_globalName 129 = .ok (.iconst 1, 1) := by decide +kernel
theorem d_X14_globalName_130 : decode b_X14_globalName 130 = .ok (.goto 4, 3) := by decide +kernel
theorem d_X14_globalName_133 : decode b_X14_globalName 133 = .ok (.iconst 0, 1) := by decide +kernel
theorem d_X14_globalName_134 : decode b_X14_globalName 134 = .ok (.istore 7, 2) := by decide +kernel
theorem d_X14_globalName_136 : decode b_X14_globalName 136 = .ok (.aload_n 0, 1) := by decide +kernel
theorem d_X14_globalName_137 : decode b_X14_globalName 137 = .ok (.iload 7, 2) := by decide +kernel
theorem d_X14_globalName_139 : decode b_X14_globalName 139 = .ok (.ifCond .eq 37, 3) := by decide +kernel
theorem d_X14_globalName_142 : decode b_X14_globalName 142 = .ok (.aload_n 0, 1) := by decide +kernel
theorem d_X14_globalName_143 : decode b_X14_globalName 143 = .ok (.getfield 53, 3) := by decide +kernel
theorem d_X14_globalName_146 : decode b_X14_globalName 146 = .ok (.iload 6, 2) := by decide +kernel
theorem d_X14_globalName_148 : decode b_X14_globalName 148 = .ok (.baload, 1) := by decide +kernel
theorem d_X14_globalName_149 : decode b_X14_globalName 149 = .ok (.ifCond .ne 27, 3) := by decide +kernel
theorem d_X14_globalName_152 : decode b_X14_globalName 152 = .ok (.iload 4, 2) := by decide +kernel
theorem d_X14_globalName_154 : decode b_X14_globalName 154 = .ok (.ifCond .ne 22, 3) := by decide +kernel
theorem d_X14_globalName_157 : decode b_X14_globalName 157 = .ok (.iload 5, 2) := by decide +kernel
theorem d_X14_globalName_159 : decode b_X14_globalName 159 = .ok (.ifCond .ne 13, 3) := by decide +kernel
theorem d_X14_globalName_162 : decode b_X14_globalName 162 = .ok (.aload_n 0, 1) := by decide +kernel
theorem d_X14_globalName_163 : decode b_X14_globalName 163 = .ok (.getfield 57, 3) := by decide +kernel
theorem d_X14_globalName_166 : decode b_X14_globalName 166 = .ok (.iload 6, 2) := by decide +kernel
theorem d_X14_globalName_168 : decode b_X14_globalName 168 = .ok (.baload, 1) := by decide +kernel
theorem d_X14_globalName_169 : decode b_X14_globalName 169 = .ok (.ifCond .ne 7, 3) := by decide +kernel
theorem d_X14_globalName_172 : decode b_X14_globalName 172 = .ok (.iconst 1, 1) := by decide +kernel
theorem d_X14_globalName_173 : decode b_X14_globalName 173 = .ok (.goto 4, 3) := by decide +kernel
theorem d_X14_globalName_176 : decode b_X14_globalName 176 = .ok (.iconst 0, 1) := by decide +kernel
theorem d_X14_globalName_177 : decode b_X14_globalName 177 = .ok (.iload_n 1, 1) := by decide +kernel
theorem d_X14_globalName_178 : decode b_X14_globalName 178 = .ok (.invokevirtual 410, 3) := by decide +kernel
theorem d_X14_globalName_181 : decode b_X14_globalName 181 = .ok (.iload 7, 2) := by decide +kernel
theorem d_X14_globalName_183 : decode b_X14_globalName 183 = .ok (.ifCond .eq 15, 3) := by decide +kernel
theorem d_X14_globalName_186 : decode b_X14_globalName 186 = .ok (.iload_n 3, 1) := by decide +kernel
theorem d_X14_globalName_187 : decode b_X14_globalName 187 = .ok (.ifCond .le 11, 3) := by decide +kernel
theorem d_X14_globalName_190 : decode b_X14_globalName 190 = .ok (.aload_n 0, 1) := by decide +kernel
theorem d_X14_globalName_191 : decode b_X14_globalName 191 = .ok (.getfield 50, 3) := by decide +kernel
theorem d_X14_globalName_194 : decode b_X14_globalName 194 = .ok (.iload 6, 2) := by decide +kernel
theorem d_X14_globalName_196 : decode b_X14_globalName 196 = .ok (.iload_n 3, 1) := by decide +kernel
theorem d_X14_globalName_197 : decode b_X14_globalName 197 = .ok (.iastore, 1) := by decide +kernel
theorem d_X14_globalName_198 : decode b_X14_globalName 198 = .ok (.aload_n 0, 1) := by decide +kernel
theorem d_X14_globalName_199 : decode b_X14_globalName 199 = .ok (.getfield 44, 3) := by decide +kernel
theorem d_X14_globalName_202 : decode b_X14_globalName 202 = .ok (.iload 6, 2) := by decide +kernel
theorem d_X14_globalName_204 : decode b_X14_globalName 204 = .ok (.iaload, 1) := by decide +kernel
theorem d_X14_globalName_205 : decode b_X14_globalName 205 = .ok (.iconst 1, 1) := by decide +kernel
theorem d_X14_globalName_206 : decode b_X14_globalName 206 = .ok (.if_icmp .ne 8, 3) := by decide +kernel
theorem d_X14_globalName_209 : decode b_X14_globalName 209 = .ok (.iload 6, 2) := by decide +kernel
theorem d_X14_globalName_211 : decode b_X14_globalName 211 = .ok (.goto 4, 3) := by decide +kernel
theorem d_X14_globalName_214 : decode b_X14_globalName 214 = .ok (.iconst (-1), 1) := by decide +kernel
theorem d_X14_globalName_215 : decode b_X14_globalName 215 = .ok (.ireturn, 1) := by decide +kernel
theorem d_X14_hasLibraryType_0 : decode b_X14_hasLibraryType 0 = .ok (.aload_n 0, 1) := by decide +kernel
theorem d_X14_hasLibraryType_1 : decode b_X14_hasLibraryType 1 = .ok (.getfield 44, 3) := by decide +kernel
theorem d_X14_hasLibraryType_4 : decode b_X14_hasLibraryType 4 = .ok (.iload_n 1, 1) := by decide +kernel
theorem d_X14_hasLibraryType_5 : decode b_X14_hasLibraryType 5 = .ok (.iaload, 1) := by decide +kernel
theorem d_X14_hasLibraryType_6 : decode b_X14_hasLibraryType 6 = .ok (.iconst 2, 1) := by decide +kernel
theorem d_X14_hasLibraryType_7 : decode b_X14_hasLibraryType 7 = .ok (.if_icmp .eq 5, 3) := by decide +kernel
theorem d_X14_hasLibraryType_10 : decode b_X14_hasLibraryType 10 = .ok (.iconst 0, 1) := by decide +kernel
theorem d_X14_hasLibraryType_11 : decode b_X14_hasLibraryType 11 = .ok (.ireturn, 1) := by decide +kernel
theorem d_X14_hasLibraryType_12 : decode b_X14_hasLibraryType 12 = .ok (.iload_n 2, 1) := by decide +kernel
theorem d_X14_hasLibraryType_13 : decode b_X14_hasLibraryType 13 = .ok (.ifCond .ne 29, 3) := by decide +kernel
theorem d_X14_hasLibraryType_16 : decode b_X14_hasLibraryType 16 = .ok (.aload_n 0, 1) := by decide +kernel
theorem d_X14_hasLibraryType_17 : decode b_X14_hasLibraryType 17 = .ok (.getfield 47, 3) := by decide +kernel
theorem d_X14_hasLibraryType_20 : decode b_X14_hasLibraryType 20 = .ok (.iload_n 1, 1) := by decide +kernel
theorem d_X14_hasLibraryType_21 : decode b_X14_hasLibraryType 21 = .ok (.iaload, 1) := by decide +kernel
theorem d_X14_hasLibraryType_22 : decode b_X14_hasLibraryType 22 = .ok (.ifCond .ne 16, 3) := by decide +kernel
theorem d_X14_hasLibraryType_25 : decode b_X14_hasLibraryType 25 = .ok (.aload_n 0, 1) := by decide +kernel
theorem d_X14_hasLibraryType_26 : decode b_X14_hasLibraryType 26 = .ok (.getfield 63, 3) := by decide +kernel
theorem d_X14_hasLibraryType_29 : decode b_X14_hasLibraryType 29 = .ok (.iload_n 1, 1) := by decide +kernel
theorem d_X14_hasLibraryType_30 : decode b_X14_hasLibraryType 30 = .ok (.iaload, 1) := by decide +kernel
theorem d_X14_hasLibraryType_31 : decode b_X14_hasLibraryType 31 = .ok (.ifCond .ne 7, 3) := by decide +kernel
theorem d_X14_hasLibraryType_34 : decode b_X14_hasLibraryType 34 = .ok (.iconst 1, 1) := by decide +kernel
theorem d_X14_hasLibraryType_35 : decode b_X14_hasLibraryType 35 = .ok (.goto 44, 3) := by decide +kernel
theorem d_X14_hasLibraryType_38 : decode b_X14_hasLibraryType 38 = .ok (.iconst 0, 1) := by decide +kernel
theorem d_X14_hasLibraryType_39 : decode b_X14_hasLibraryType 39 = .ok (.goto 40, 3) := by decide +kernel
theorem d_X14_hasLibraryType_42 : decode b_X14_hasLibraryType 42 = .ok (.aload_n 0, 1) := by decide +kernel
theorem d_X14_hasLibraryType_43 : decode b_X14_hasLibraryType 43 = .ok (.getfield 47, 3) := by decide +kernel
theorem d_X14_hasLibraryType_46 : decode b_X14_hasLibraryType 46 = .ok (.iload_n 1, 1) := by decide +kernel
theorem d_X14_hasLibraryType_47 : decode b_X14_hasLibraryType 47 = .ok (.iaload, 1) := by decide +kernel
theorem d_X14_hasLibraryType_48 : decode b_X14_hasLibraryType 48 = .ok (.iconst (-1), 1) := by decide +kernel
theorem d_X14_hasLibraryType_49 : decode b_X14_hasLibraryType 49 = .ok (.if_icmp .ne 29, 3) := by decide +kernel
theorem d_X14_hasLibraryType_52 : decode b_X14_hasLibraryType 52 = .ok (.aload_n 0, 1) := by decide +kernel
theorem d_X14_hasLibraryType_53 : decode b_X14_hasLibraryType 53 = .ok (.getfield 63, 3) := by decide +kernel
theorem d_X14_hasLibraryType_56 : decode b_X14_hasLibraryType 56 = .ok (.iload_n 1, 1) := by decide +kernel
theorem d_X14_hasLibraryType_57 : decode b_X14_hasLibraryType 57 = .ok (.iaload, 1) := by decide +kernel
theorem d_X14_hasLibraryType_58 : decode b_X14_hasLibraryType 58 = .ok (.iconst 1, 1) := by decide +kernel
theorem d_X14_hasLibraryType_59 : decode b_X14_hasLibraryType 59 = .ok (.if_icmp .ne 19, 3) := by decide +kernel
theorem d_X14_hasLibraryType_62 : decode b_X14_hasLibraryType 62 = .ok (.aload_n 0, 1) := by decide +kernel
theorem d_X14_hasLibraryType_63 : decode b_X14_hasLibraryType 63 = .ok (.getfield 67, 3) := by decide +kernel
theorem d_X14_hasLibraryType_66 : decode b_X14_hasLibraryType 66 = .ok (.bipush 8, 2) := by decide +kernel
theorem d_X14_hasLibraryType_68 : decode b_X14_hasLibraryType 68 = .ok (.iload_n 1, 1) := by decide +kernel
theorem d_X14_hasLibraryType_69 : decode b_X14_hasLibraryType 69 = .ok (.imul, 1) := by decide +kernel
theorem d_X14_hasLibraryType_70 : decode b_X14_hasLibraryType 70 = .ok (.iaload, 1) := by decide +kernel
theorem d_X14_hasLibraryType_71 : decode b_X14_hasLibraryType 71 = .ok (.ifCond .ne 7, 3) := by decide +kernel
theorem d_X14_hasLibraryType_74 : decode b_X14_hasLibraryType 74 = .ok (.iconst 1, 1) := by decide +kernel
theorem d_X14_hasLibraryType_75 : decode b_X14_hasLibraryType 75 = .ok (.goto 4, 3) := by decide +kernel
theorem d_X14_hasLibraryType_78 : decode b_X14_hasLibraryType 78 = .ok (.iconst 0, 1) := by decide +kernel
theorem d_X14_hasLibraryType_79 : decode b_X14_hasLibraryType 79 = .ok (.ireturn, 1) := by decide +kernel
theorem d_X14_hasType_0 : decode b_X14_hasType 0 = .ok (.aload_n 0, 1) := by decide +kernel
theorem d_X14_hasType_1 : decode b_X14_hasType 1 = .ok (.getfield 44, 3) := by decide +kernel
theorem d_X14_hasType_4 : decode b_X14_hasType 4 = .ok (.iload_n 1, 1) := by decide +kernel
theorem d_X14_hasType_5 : decode b_X14_hasType 5 = .ok (.iaload, 1) := by decide +kernel
theorem d_X14_hasType_6 : decode b_X14_hasType 6 = .ok (.aload_n 0, 1) := by decide +kernel
theorem d_X14_hasType_7 : decode b_X14_hasType 7 = .ok (.getfield 44, 3) := by decide +kernel
theorem d_X14_hasType_10 : decode b_X14_hasType 10 = .ok (.iload_n 2, 1) := by decide +kernel
theorem d_X14_hasType_11 : decode b_X14_hasType 11 = .ok (.iaload, 1) := by decide +kernel
theorem d_X14_hasType_12 : decode b_X14_hasType 12 = .ok (.if_icmp .ne 18, 3) := by decide +kernel
theorem d_X14_hasType_15 : decode b_X14_hasType 15 = .ok (.aload_n 0, 1) := by decide +kernel
theorem d_X14_hasType_16 : decode b_X14_hasType 16 = .ok (.getfield 47, 3) := by decide +kernel
theorem d_X14_hasType_19 : decode b_X14_hasType 19 = .ok (.iload_n 1, 1) := by decide +kernel
theorem d_X14_hasType_20 : decode b_X14_hasType 20 = .ok (.iaload, 1) := by decide +kernel
theorem d_X14_hasType_21 : decode b_X14_hasType 21 = .ok (.aload_n 0, 1) := by decide +kernel
theorem d_X14_hasType_22 : decode b_X14_hasType 22 = .ok (.getfield 47, 3) := by decide +kernel
theorem d_X14_hasType_25 : decode b_X14_hasType 25 = .ok (.iload_n 2, 1) := by decide +kernel
theorem d_X14_hasType_26 : decode b_X14_hasType 26 = .ok (.iaload, 1) := by decide +kernel
theorem d_X14_hasType_27 : decode b_X14_hasType 27 = .ok (.if_icmp .eq 5, 3) := by decide +kernel
theorem d_X14_hasType_30 : decode b_X14_hasType 30 = .ok (.iconst 0, 1) := by decide +kernel
theorem d_X14_hasType_31 : decode b_X14_hasType 31 = .ok (.ireturn, 1) := by decide +kernel
theorem d_X14_hasType_32 : decode b_X14_hasType 32 = .ok (.aload_n 0, 1) := by decide +kernel
theorem d_X14_hasType_33 : decode b_X14_hasType 33 = .ok (.getfield 44, 3) := by decide +kernel
theorem d_X14_hasType_36 : decode b_X14_hasType 36 = .ok (.iload_n 1, 1) := by decide +kernel
theorem d_X14_hasType_37 : decode b_X14_hasType 37 = .ok (.iaload, 1) := by decide +kernel
theorem d_X14_hasType_38 : decode b_X14_hasType 38 = .ok (.iconst 1, 1) := by decide +kernel
theorem d_X14_hasType_39 : decode b_X14_hasType 39 = .ok (.if_icmp .ne 64, 3) := by decide +kernel
theorem d_X14_hasType_42 : decode b_X14_hasType 42 = .ok (.aload_n 0, 1) := by decide +kernel
theorem d_X14_hasType_43 : decode b_X14_hasType 43 = .ok (.getfield 50, 3) := by decide +kernel
theorem d_X14_hasType_46 : decode b_X14_hasType 46 = .ok (.iload_n 1, 1) := by decide +kernel
theorem d_X14_hasType_47 : decode b_X14_hasType 47 = .ok (.iaload, 1) := by decide +kernel
theorem d_X14_hasType_48 : decode b_X14_hasType 48 = .ok (.ifCond .ge 7, 3) := by decide +kernel
theorem d_X14_hasType_51 : decode b_X14_hasType 51 = .ok (.iconst 1, 1) := by decide +kernel
theorem d_X14_hasType_52 : decode b_X14_hasType 52 = .ok (.goto 4, 3) := by decide +kernel
theorem d_X14_hasType_55 : decode b_X14_hasType 55 = .ok (.iconst 0, 1) := by decide +kernel
theorem d_X14_hasType_56 : decode b_X14_hasType 56 = .ok (.aload_n 0, 1) := by decide +kernel
theorem d_X14_hasType_57 : decode b_X14_hasType 57 = .ok (.getfield 50, 3) := by decide +kernel
theorem d_X14_hasType_60 : decode b_X14_hasType 60 = .ok (.iload_n 2, 1) := by decide +kernel
theorem d_X14_hasType_61 : decode b_X14_hasType 61 = .ok (.iaload, 1) := by decide +kernel
theorem d_X14_hasType_62 : decode b_X14_hasType 62 = .ok (.ifCond .ge 7, 3) := by decide +kernel
theorem d_X14_hasType_65 : decode b_X14_hasType 65 = .ok (.iconst 1, 1) := by decide +kernel
theorem d_X14_hasType_66 : decode b_X14_hasType 66 = .ok (.goto 4, 3) := by decide +kernel
theorem d_X14_hasType_69 : decode b_X14_hasType 69 = .ok (.iconst 0, 1) := by decide +kernel
theorem d_X14_hasType_70 : decode b_X14_hasType 70 = .ok (.if_icmp .ne 31, 3) := by decide +kernel
theorem d_X14_hasType_73 : decode b_X14_hasType 73 = .ok (.aload_n 0, 1) := by decide +kernel
theorem d_X14_hasType_74 : decode b_X14_hasType 74 = .ok (.getfield 50, 3) := by decide +kernel
theorem d_X14_hasType_77 : decode b_X14_hasType 77 = .ok (.iload_n 1, 1) := by decide +kernel
theorem d_X14_hasType_78 : decode b_X14_hasType 78 = .ok (.iaload, 1) := by decide +kernel
theorem d_X14_hasType_79 : decode b_X14_hasType 79 = .ok (.ifCond .le 18, 3) := by decide +kernel
theorem d_X14_hasType_82 : decode b_X14_hasType 82 = .ok (.aload_n 0, 1) := by decide +kernel
theorem d_X14_hasType_83 : decode b_X14_hasType 83 = .ok (.getfield 50, 3) := by decide +kernel
theorem d_X14_hasType_86 : decode b_X14_hasType 86 = .ok (.iload_n 1, 1) := by decide +kernel
theorem d_X14_hasType_87 : decode b_X14_hasType 87 = .ok (.iaload, 1) := by decide +kernel
theorem d_X14_hasType_88 : decode b_X14_hasType 88 = .ok (.aload_n 0, 1) := by decide +kernel
theorem d_X14_hasType_89 : decode b_X14_hasType 89 = .ok (.getfield 50, 3) := by decide +kernel
theorem d_X14_hasType_92 : decode b_X14_hasType 92 = .ok (.iload_n 2, 1) := by decide +kernel
theorem d_X14_hasType_93 : decode b_X14_hasType 93 = .ok (.iaload, 1) := by decide +kernel
theorem d_X14_hasType_94 : decode b_X14_hasType 94 = .ok (.if_icmp .ne 7, 3) := by decide +kernel
theorem d_X14_hasType_97 : decode b_X14_hasType 97 = .ok (.iconst 1, 1) := by decide +kernel
theorem d_X14_hasType_98 : decode b_X14_hasType 98 = .ok (.goto 4, 3) := by decide +kernel
theorem d_X14_hasType_101 : decode b_X14_hasType 101 = .ok (.iconst 0, 1) := by decide +kernel
theorem d_X14_hasType_102 : decode b_X14_hasType 102 = .ok (.ireturn, 1) := by decide +kernel
theorem d_X14_hasType_103 : decode b_X14_hasType 103 = .ok (.aload_n 0, 1) := by decide +kernel
theorem d_X14_hasType_104 : decode b_X14_hasType 104 = .ok (.getfield 63, 3) := by decide +kernel
theorem d_X14_hasType_107 : decode b_X14_hasType 107 = .ok (.iload_n 1, 1) := by decide +kernel
theorem d_X14_hasType_108 : decode b_X14_hasType 108 = .ok (.iaload, 1) := by decide +kernel
theorem d_X14_hasType_109 : decode b_X14_hasType 109 = .ok (.aload_n 0, 1) := by decide +kernel
theorem d_X14_hasType_110 : decode b_X14_hasType 110 = .ok (.getfield 63, 3) := by decide +kernel
theorem d_X14_hasType_113 : decode b_X14_hasType 113 = .ok (.iload_n 2, 1) := by decide +kernel
theorem d_X14_hasType_114 : decode b_X14_hasType 114 = .ok (.iaload, 1) := by decide +kernel
theorem d_X14_hasType_115 : decode b_X14_hasType 115 = .ok (.if_icmp .eq 5, 3) := by decide +kernel
theorem d_X14_hasType_118 : decode b_X14_hasType 118 = .ok (.iconst 0, 1) := by decide +kernel
theorem d_X14_hasType_119 : decode b_X14_hasType 119 = .ok (.ireturn, 1) := by decide +kernel
theorem d_X14_hasType_120 : decode b_X14_hasType 120 = .ok (.iconst 0, 1) := by decide +kernel
theorem d_X14_hasType_121 : decode b_X14_hasType 121 = .ok (.istore_n 3, 1) := by decide +kernel
theorem d_X14_hasType_122 : decode b_X14_hasType 122 = .ok (.iload_n 3, 1) := by decide +kernel
theorem d_X14_hasType_123 : decode b_X14_hasType 123 = .ok (.aload_n 0, 1) := by decide +kernel
theorem d_X14_hasType_124 : decode b_X14_hasType 124 = .ok (.getfield 63, 3) := by decide +kernel
theorem d_X14_hasType_127 : decode b_X14_hasType 127 = .ok (.iload_n 1, 1) := by decide +kernel
theorem d_X14_hasType_128 : decode b_X14_hasType 128 = .ok (.iaload, 1) := by decide +kernel
theorem d_X14_hasType_129 : decode b_X14_hasType 129 = .ok (.if_icmp .ge 36, 3) := by decide +kernel
theorem d_X14_hasType_132 : decode b_X14_hasType 132 = .ok (.aload_n 0, 1) := by decide +kernel
theorem d_X14_hasType_133 : decode b_X14_hasType 133 = .ok (.getfield 67, 3) := by decide +kernel
theorem d_X14_hasType_136 : decode b_X14_hasType 136 = .ok (.bipush 8, 2) := by decide +kernel
theorem d_X14_hasType_138 : decode b_X14_hasType 138 = .ok (.iload_n 1, 1) := by decide +kernel
theorem d_X14_hasType_139 : decode b_X14_hasType 139 = .ok (.imul, 1) := by decide +kernel
theorem d_X14_hasType_140 : decode b_X14_hasType 140 = .ok (.iload_n 3, 1) := by decide +kernel
theorem d_X14_hasType_141 : decode b_X14_hasType 141 = .ok (.iadd, 1) := by decide +kernel
theorem d_X14_hasType_142 : decode b_X14_hasType 142 = .ok (.iaload, 1) := by decide +kernel
theorem d_X14_hasType_143 : decode b_X14_hasType 143 = .ok (.aload_n 0, 1) := by decide +kernel
theorem d_X14_hasType_144 : decode b_X14_hasType 144 = .ok (.getfield 67, 3) := by decide +kernel
theorem d_X14_hasType_147 : decode b_X14_hasType 147 = .ok (.bipush 8, 2) := by decide +kernel
theorem d_X14_hasType_149 : decode b_X14_hasType 149 = .ok (.iload_n 2, 1) := by decide +kernel
theorem d_X14_hasType_150 : decode b_X14_hasType 150 = .ok (.imul, 1) := by decide +kernel
theorem d_X14_hasType_151 : decode b_X14_hasType 151 = .ok (.iload_n 3, 1) := by decide +kernel
theorem d_X14_hasType_152 : decode b_X14_hasType 152 = .ok (.iadd, 1) := by decide +kernel
theorem d_X14_hasType_153 : decode b_X14_hasType 153 = .ok (.iaload, 1) := by decide +kernel
theorem d_X14_hasType_154 : decode b_X14_hasType 154 = .ok (.if_icmp .eq 5, 3) := by decide +kernel
theorem d_X14_hasType_157 : decode b_X14_hasType 157 = .ok (.iconst 0, 1) := by decide +kernel
theorem d_X14_hasType_158 : decode b_X14_hasType 158 = .ok (.ireturn, 1) := by decide +kernel
theorem d_X14_hasType_159 : decode b_X14_hasType 159 = .ok (.iinc 3 1, 3) := by decide +kernel
theorem d_X14_hasType_162 : decode b_X14_hasType 162 = .ok (.goto (-40), 3) := by decide +kernel
theorem d_X14_hasType_165 : decode b_X14_hasType 165 = .ok (.iconst 1, 1) := by decide +kernel
theorem d_X14_hasType_166 : decode b_X14_hasType 166 = .ok (.ireturn, 1) := by decide +kernel
theorem d_X14_head_0 : decode b_X14_head 0 = .ok (.aload_n 0, 1) := by decide +kernel
theorem d_X14_head_1 : decode b_X14_head 1 = .ok (.iconst 0, 1) := by decide +kernel
theorem d_X14_head_2 : decode b_X14_head 2 = .ok (.putfield 647, 3) := by decide +kernel
theorem d_X14_head_5 : decode b_X14_head 5 = .ok (.aload_n 0, 1) := by decide +kernel
theorem d_X14_head_6 : decode b_X14_head 6 = .ok (.bipush 20, 2) := by decide +kernel
theorem d_X14_head_8 : decode b_X14_head 8 = .ok (.invokevirtual 497, 3) := by decide +kernel
theorem d_X14_head_11 : decode b_X14_head 11 = .ok (.aload_n 0, 1) := by decide +kernel
theorem d_X14_head_12 : decode b_X14_head 12 = .ok (.bipush 21, 2) := by decide +kernel
theorem d_X14_head_14 : decode b_X14_head 14 = .ok (.invokevirtual 530, 3) := by decide +kernel
theorem d_X14_head_17 : decode b_X14_head 17 = .ok (.ifCond .eq 4, 3) := by decide +kernel
theorem d_X14_head_20 : decode b_X14_head 20 = .ok (.return_, 1) := by decide +kernel
theorem d_X14_head_21 : decode b_X14_head 21 = .ok (.aload_n 0, 1) := by decide +kernel
theorem d_X14_head_22 : decode b_X14_head 22 = .ok (.getfield 13, 3) := by decide +kernel
theorem d_X14_head_25 : decode b_X14_head 25 = .ok (.aload_n 0, 1) := by decide +kernel
theorem d_X14_head_26 : decode b_X14_head 26 = .ok (.getfield 288, 3) := by decide +kernel
theorem d_X14_head_29 : decode b_X14_head 29 = .ok (.iaload, 1) := by decide +kernel
theorem d_X14_head_30 : decode b_X14_head 30 = .ok (.bipush 6, 2) := by decide +kernel
theorem d_X14_head_32 : decode b_X14_head 32 = .ok (.if_icmp .ne 20, 3) := by decide +kernel
theorem d_X14_head_35 : decode b_X14_head 35 = .ok (.aload_n 0, 1) := by decide +kernel
theorem d_X14_head_36 : decode b_X14_head 36 = .ok (.dup, 1) := by decide +kernel
theorem d_X14_head_37 : decode b_X14_head 37 = .ok (.getfield 288, 3) := by decide +kernel
theorem d_X14_head_40 : decode b_X14_head 40 = .ok (.iconst 1, 1) := by decide +kernel
theorem d_X14_head_41 : decode b_X14_head 41 = .ok (.iadd, 1) := by decide +kernel
theorem d_X14_head_42 : decode b_X14_head 42 = .ok (.putfield 288, 3) := by decide +kernel
theorem d_X14_head_45 : decode b_X14_head 45 = .ok (.aload_n 0, 1) := by decide +kernel
theorem d_X14_head_46 : decode b_X14_head 46 = .ok (.bipush 21, 2) := by decide +kernel
theorem d_X14_head_48 : decode b_X14_head 48 = .ok (.invokevirtual 497, 3) := by decide +kernel
theorem d_X14_head_51 : decode b_X14_head 51 = .ok (.return_, 1) := by decide +kernel
theorem d_X14_head_52 : decode b_X14_head 52 = .ok (.aload_n 0, 1) := by decide +kernel
theorem d_X14_head_53 : decode b_X14_head 53 = .ok (.getfield 13, 3) := by decide +kernel
theorem d_X14_head_56 : decode b_X14_head 56 = .ok (.aload_n 0, 1) := by decide +kernel
theorem d_X14_head_57 : decode b_X14_head 57 = .ok (.getfield 288, 3) := by decide +kernel
theorem d_X14_head_60 : decode b_X14_head 60 = .ok (.iaload, 1) := by decide +kernel
theorem d_X14_head_61 : decode b_X14_head 61 = .ok (.iconst 5, 1) := by decide +kernel
theorem d_X14_head_62 : decode b_X14_head 62 = .ok (.if_icmp .ne 12, 3) := by decide +kernel
theorem d_X14_head_65 : decode b_X14_head 65 = .ok (.aload_n 0, 1) := by decide +kernel
theorem d_X14_head_66 : decode b_X14_head 66 = .ok (.getfield 647, 3) := by decide +kernel
theorem d_X14_head_69 : decode b_X14_head 69 = .ok (.bipush 8, 2) := by decide +kernel
theorem d_X14_head_71 : decode b_X14_head 71 = .ok (.if_icmp .ne 8, 3) := by decide +kernel
theorem d_X14_head_74 : decode b_X14_head 74 = .ok (.aload_n 0, 1) := by decide +kernel
theorem d_X14_head_75 : decode b_X14_head 75 = .ok (.invokevirtual 311, 3) := by decide +kernel
theorem d_X14_head_78 : decode b_X14_head 78 = .ok (.athrow, 1) := by decide +kernel
theorem d_X14_head_79 : decode b_X14_head 79 = .ok (.aload_n 0, 1) := by decide +kernel
theorem d_X14_head_80 : decode b_X14_head 80 = .ok (.dup, 1) := by decide +kernel
theorem d_X14_head_81 : decode b_X14_head 81 = .ok (.getfield 288, 3) := by decide +kernel
theorem d_X14_head_84 : decode b_X14_head 84 = .ok (.iconst 1, 1) := by decide +kernel
theorem d_X14_head_85 : decode b_X14_head 85 = .ok (.iadd, 1) := by decide +kernel
theorem d_X14_head_86 : decode b_X14_head 86 = .ok (.putfield 288, 3) := by decide +kernel
theorem d_X14_head_89 : decode b_X14_head 89 = .ok (.aload_n 0, 1) := by decide +kernel
theorem d_X14_head_90 : decode b_X14_head 90 = .ok (.invokevirtual 494, 3) := by decide +kernel
theorem d_X14_head_93 : decode b_X14_head 93 = .ok (.istore_n 1, 1) := by decide +kernel
theorem d_X14_head_94 : decode b_X14_head 94 = .ok (.iconst (-1), 1) := by decide +kernel
theorem d_X14_head_95 : decode b_X14_head 95 = .ok (.istore_n 2, 1) := by decide +kernel
theorem d_X14_head_96 : decode b_X14_head 96 = .ok (.aload_n 0, 1) := by decide +kernel
theorem d_X14_head_97 : decode b_X14_head 97 = .ok (.getfield 13, 3) := by decide +kernel
theorem d_X14_head_100 : decode b_X14_head 100 = .ok (.aload_n 0, 1) := by decide +kernel
theorem d_X14_head_101 : decode b_X14_head 101 = .ok (.getfield 288, 3) := by decide +kernel
theorem d_X14_head_104 : decode b_X14_head 104 = .ok (.iaload, 1) := by decide +kernel
theorem d_X14_head_105 : decode b_X14_head 105 = .ok (.iconst 2, 1) := by decide +kernel
theorem d_X14_head_106 : decode b_X14_head 106 = .ok (.if_icmp .ne 18, 3) := by decide +kernel
theorem d_X14_head_109 : decode b_X14_head 109 = .ok (.aload_n 0, 1) := by decide +kernel
theorem d_X14_head_110 : decode b_X14_head 110 = .ok (.getfield 288, 3) := by decide +kernel
theorem d_X14_head_113 : decode b_X14_head 113 = .ok (.istore_n 2, 1) := by decide +kernel
theorem d_X14_head_114 : decode b_X14_head 114 = .ok (.aload_n 0, 1) := by decide +kernel
theorem d_X14_head_115 : decode b_X14_head 115 = .ok (.dup, 1) := by decide +kernel
theorem d_X14_head_116 : decode b_X14_head 116 = .ok (.getfield 288, 3) := by decide +kernel
theorem d_X14_head_119 : decode b_X14_head 119 = .ok (.iconst 1, 1) := by decide +kernel
theorem d_X14_head_120 : decode b_X14_head 120 = .ok (.iadd, 1) := by decide +kernel
theorem d_X14_head_121 : decode b_X14_head 121 = .ok (.putfield 288, 3) := by decide +kernel
theorem d_X14_head_124 : decode b_X14_head 124 = .ok (.aload_n 0, 1) := by decide +kernel
theorem d_X14_head_125 : decode b_X14_head 125 = .ok (.bipush 24, 2) := by decide +kernel
theorem d_X14_head_127 : decode b_X14_head 127 = .ok (.invokevirtual 530, 3) := by decide +kernel
theorem d_X14_head_130 : decode b_X14_head 130 = .ok (.ifCond .eq 12, 3) := by decide +kernel
theorem d_X14_head_133 : decode b_X14_head 133 = .ok (.aload_n 0, 1) := by decide +kernel
theorem d_X14_head_134 : decode b_X14_head 134 = .ok (.bipush 25, 2) := by decide +kernel
theorem d_X14_head_136 : decode b_X14_head 136 = .ok (.invokevirtual 497, 3) := by decide +kernel
theorem d_X14_head_139 : decode b_X14_head 139 = .ok (.iinc 1 1, 3) := by decide +kernel
theorem d_X14_head_142 : decode b_X14_head 142 = .ok (.aload_n 0, 1) := by decide +kernel
theorem d_X14_head_143 : decode b_X14_head 143 = .ok (.getfield 132, 3) := by decide +kernel
theorem d_X14_head_146 : decode b_X14_head 146 = .ok (.aload_n 0, 1) := by decide +kernel
theorem d_X14_head_147 : decode b_X14_head 147 = .ok (.getfield 647, 3) := by decide +kernel
theorem d_X14_head_150 : decode b_X14_head 150 = .ok (.iload_n 1, 1) := by decide +kernel
theorem d_X14_head_151 : decode b_X14_head 151 = .ok (.iastore, 1) := by decide +kernel
theorem d_X14_head_152 : decode b_X14_head 152 = .ok (.aload_n 0, 1) := by decide +kernel
theorem d_X14_head_153 : decode b_X14_head 153 = .ok (.getfield 135, 3) := by decide +kernel
theorem d_X14_head_156 : decode b_X14_head 156 = .ok (.aload_n 0, 1) := by decide +kernel
theorem d_X14_head_157 : decode b_X14_head 157 = .ok (.getfield 647, 3) := by decide +kernel
theorem d_X14_head_160 : decode b_X14_head 160 = .ok (.iload_n 2, 1) := by decide +kernel
theorem d_X14_head_161 : decode b_X14_head 161 = .ok (.iastore, 1) := by decide +kernel
theorem d_X14_head_162 : decode b_X14_head 162 = .ok (.aload_n 0, 1) := by decide +kernel
theorem d_X14_head_163 : decode b_X14_head 163 = .ok (.getfield 138, 3) := by decide +kernel
theorem d_X14_head_166 : decode b_X14_head 166 = .ok (.aload_n 0, 1) := by decide +kernel
theorem d_X14_head_167 : decode b_X14_head 167 = .ok (.getfield 647, 3) := by decide +kernel
theorem d_X14_head_170 : decode b_X14_head 170 = .ok (.aload_n 0, 1) := by decide +kernel
theorem d_X14_head_171 : decode b_X14_head 171 = .ok (.getfield 288, 3) := by decide +kernel
theorem d_X14_head_174 : decode b_X14_head 174 = .ok (.iastore, 1) := by decide +kernel
theorem d_X14_head_175 : decode b_X14_head 175 = .ok (.aload_n 0, 1) := by decide +kernel
theorem d_X14_head_176 : decode b_X14_head 176 = .ok (.dup, 1) := by decide +kernel
theorem d_X14_head_177 : decode b_X14_head 177 = .ok (.getfield 647, 3) := by decide +kernel
theorem d_X14_head_180 : decode b_X14_head 180 = .ok (.iconst 1, 1) := by decide +kernel
theorem d_X14_head_181 : decode b_X14_head 181 = .ok (.iadd, 1) := by decide +kernel
theorem d_X14_head_182 : decode b_X14_head 182 = .ok (.putfield 647, 3) := by decide +kernel
theorem d_X14_head_185 : decode b_X14_head 185 = .ok (.aload_n 0, 1) := by decide +kernel
theorem d_X14_head_186 : decode b_X14_head 186 = .ok (.bipush 26, 2) := by decide +kernel
theorem d_X14_head_188 : decode b_X14_head 188 = .ok (.invokevirtual 530, 3) := by decide +kernel
theorem d_X14_head_191 : decode b_X14_head 191 = .ok (.ifCond .ne (-139), 3) := by decide +kernel
theorem d_X14_head_194 : decode b_X14_head 194 = .ok (.aload_n 0, 1) := by decide +kernel
theorem d_X14_head_195 : decode b_X14_head 195 = .ok (.bipush 21, 2) := by decide +kernel
theorem d_X14_head_197 : decode b_X14_head 197 = .ok (.invokevirtual 497, 3) := by decide +kernel
theorem d_X14_head_200 : decode b_X14_head 200 = .ok (.return_, 1) := by decide +kernel
theorem d_X14_hold_0 : decode b_X14_hold 0 = .ok (.aload_n 0, 1) := by decide +kernel
theorem d_X14_hold_1 : decode b_X14_hold 1 = .ok (.getfield 123, 3) := by decide +kernel
theorem d_X14_hold_4 : decode b_X14_hold 4 = .ok (.aload_n 0, 1) := by decide +kernel
theorem d_X14_hold_5 : decode b_X14_hold 5 = .ok (.getfield 340, 3) := by decide +kernel
theorem d_X14_hold_8 : decode b_X14_hold 8 = .ok (.iload_n 1, 1) := by decide +kernel
theorem d_X14_hold_9 : decode b_X14_hold 9 = .ok (.iastore, 1) := by decide +kernel
theorem d_X14_hold_10 : decode b_X14_hold 10 = .ok (.aload_n 0, 1) := by decide +kernel
theorem d_X14_hold_11 : decode b_X14_hold 11 = .ok (.getfield 126, 3) := by decide +kernel
theorem d_X14_hold_14 : decode b_X14_hold 14 = .ok (.aload_n 0, 1) := by decide +kernel
theorem d_X14_hold_15 : decode b_X14_hold 15 = .ok (.getfield 340, 3) := by decide +kernel
theorem d_X14_hold_18 : decode b_X14_hold 18 = .ok (.iload_n 2, 1) := by decide +kernel
theorem d_X14_hold_19 : decode b_X14_hold 19 = .ok (.iastore, 1) := by decide +kernel
theorem d_X14_hold_20 : decode b_X14_hold 20 = .ok (.aload_n 0, 1) := by decide +kernel
theorem d_X14_hold_21 : decode b_X14_hold 21 = .ok (.getfield 129, 3) := by decide +kernel
theorem d_X14_hold_24 : decode b_X14_hold 24 = .ok (.aload_n 0, 1) := by decide +kernel
theorem d_X14_hold_25 : decode b_X14_hold 25 = .ok (.getfield 340, 3) := by decide +kernel
theorem d_X14_hold_28 : decode b_X14_hold 28 = .ok (.aload_n 0, 1) := by decide +kernel
theorem d_X14_hold_29 : decode b_X14_hold 29 = .ok (.getfield 346, 3) := by decide +kernel
theorem d_X14_hold_32 : decode b_X14_hold 32 = .ok (.iastore, 1) := by decide +kernel
theorem d_X14_hold_33 : decode b_X14_hold 33 = .ok (.aload_n 0, 1) := by decide +kernel
theorem d_X14_hold_34 : decode b_X14_hold 34 = .ok (.dup, 1) := by decide +kernel
theorem d_X14_hold_35 : decode b_X14_hold 35 = .ok (.getfield 340, 3) := by decide +kernel
theorem d_X14_hold_38 : decode b_X14_hold 38 = .ok (.iconst 1, 1) := by decide +kernel
theorem d_X14_hold_39 : decode b_X14_hold 39 = .ok (.iadd, 1) := by decide +kernel
theorem d_X14_hold_40 : decode b_X14_hold 40 = .ok (.putfield 340, 3) := by decide +kernel
theorem d_X14_hold_43 : decode b_X14_hold 43 = .ok (.return_, 1) := by decide +kernel
theorem d_X14_holds_0 : decode b_X14_holds 0 = .ok (.aload_n 0, 1) := by decide +kernel
theorem d_X14_holds_1 : decode b_X14_holds 1 = .ok (.iload_n 3, 1) := by decide +kernel
theorem d_X14_holds_2 : decode b_X14_holds 2 = .ok (.invokevirtual 707, 3) := by decide +kernel
theorem d_X14_holds_5 : decode b_X14_holds 5 = .ok (.istore 5, 2) := by decide +kernel
theorem d_X14_holds_7 : decode b_X14_holds 7 = .ok (.iload_n 1, 1) := by decide +kernel
theorem d_X14_holds_8 : decode b_X14_holds 8 = .ok (.bipush 31, 2) := by decide +kernel
theorem d_X14_holds_10 : decode b_X14_holds 10 = .ok (.if_icmp .ne 32, 3) := by decide +kernel
theorem d_X14_holds_13 : decode b_X14_holds 13 = .ok (.aload_n 0, 1) := by decide +kernel
theorem d_X14_holds_14 : decode b_X14_holds 14 = .ok (.iload_n 3, 1) := by decide +kernel
theorem d_X14_holds_15 : decode b_X14_holds 15 = .ok (.iconst 1, 1) := by decide +kernel
theorem d_X14_holds_16 : decode b_X14_holds 16 = .ok (.invokevirtual 694, 3) := by decide +kernel
theorem d_X14_holds_19 : decode b_X14_holds 19 = .ok (.ifCond .eq 21, 3) := by decide +kernel
theorem d_X14_holds_22 : decode b_X14_holds 22 = .ok (.iload 5, 2) := by decide +kernel
theorem d_X14_holds_24 : decode b_X14_holds 24 = .ok (.ifCond .ge 12, 3) := by decide +kernel
theorem d_X14_holds_27 : decode b_X14_holds 27 = .ok (.aload_n 0, 1) := by decide +kernel
theorem d_X14_holds_28 : decode b_X14_holds 28 = .ok (.iload_n 3, 1) := by decide +kernel
theorem d_X14_holds_29 : decode b_X14_holds 29 = .ok (.iload_n 2, 1) := by decide +kernel
theorem d_X14_holds_30 : decode b_X14_holds 30 = .ok (.invokevirtual 710, 3) := by decide +kernel
theorem d_X14_holds_33 : decode b_X14_holds 33 = .ok (.ifCond .eq 7, 3) := by decide +kernel
theorem d_X14_holds_36 : decode b_X14_holds 36 = .ok (.iconst 1, 1) := by decide +kernel
theorem d_X14_holds_37 : decode b_X14_holds 37 = .ok (.goto 4, 3) := by decide +kernel
theorem d_X14_holds_40 : decode b_X14_holds 40 = .ok (.iconst 0, 1) := by decide +kernel
theorem d_X14_holds_41 : decode b_X14_holds 41 = .ok (.ireturn, 1) := by decide +kernel
theorem d_X14_holds_42 : decode b_X14_holds 42 = .ok (.aload_n 0, 1) := by decide +kernel
theorem d_X14_holds_43 : decode b_X14_holds 43 = .ok (.iload_n 3, 1) := by decide +kernel
theorem d_X14_holds_44 : decode b_X14_holds 44 = .ok (.iconst 0, 1) := by decide +kernel
theorem d_X14_holds_45 : decode b_X14_holds 45 = .ok (.invokevirtual 694, 3) := by decide +kernel
theorem d_X14_holds_48 : decode b_X14_holds 48 = .ok (.ifCond .ne 5, 3) := by decide +kernel
theorem d_X14_holds_51 : decode b_X14_holds 51 = .ok (.iconst 0, 1) := by decide +kernel
theorem d_X14_holds_52 : decode b_X14_holds 52 = .ok (.ireturn, 1) := by decide +kernel
theorem d_X14_holds_53 : decode b_X14_holds 53 = .ok (.iload_n 1, 1) := by decide +kernel
theorem d_X14_holds_54 : decode b_X14_holds 54 = .ok (.bipush 32, 2) := by decide +kernel
theorem d_X14_holds_56 : decode b_X14_holds 56 = .ok (.if_icmp .ne 33, 3) := by decide +kernel
theorem d_X14_holds_59 : decode b_X14_holds 59 = .ok (.aload_n 0, 1) := by decide +kernel
theorem d_X14_holds_60 : decode b_X14_holds 60 = .ok (.getfield 60, 3) := by decide +kernel
theorem d_X14_holds_63 : decode b_X14_holds 63 = .ok (.iload_n 3, 1) := by decide +kernel
theorem d_X14_holds_64 : decode b_X14_holds 64 = .ok (.baload, 1) := by decide +kernel
theorem d_X14_holds_65 : decode b_X14_holds 65 = .ok (.ifCond .eq 22, 3) := by decide +kernel
theorem d_X14_holds_68 : decode b_X14_holds 68 = .ok (.iload 5, 2) := by decide +kernel
theorem d_X14_holds_70 : decode b_X14_holds 70 = .ok (.ifCond .ge 17, 3) := by decide +kernel
theorem d_X14_holds_73 : decode b_X14_holds 73 = .ok (.aload_n 0, 1) := by decide +kernel
theorem d_X14_holds_74 : decode b_X14_holds 74 = .ok (.iload_n 3, 1) := by decide +kernel
theorem d_X14_holds_75 : decode b_X14_holds 75 = .ok (.iload 4, 2) := by decide +kernel
theorem d_X14_holds_77 : decode b_X14_holds 77 = .ok (.invokevirtual 710, 3) := by decide +kernel
theorem d_X14_holds_80 : decode b_X14_holds 80 = .ok (.ifCond .ne 7, 3) := by decide +kernel
theorem d_X14_holds_83 : decode b_X14_holds 83 = .ok (.iconst 1, 1) := by decide +kernel
theorem d_X14_holds_84 : decode b_X14_holds 84 = .ok (.goto 4, 3) := by decide +kernel
theorem d_X14_holds_87 : decode b_X14_holds 87 = .ok (.iconst 0, 1) := by decide +kernel
theorem d_X14_holds_88 : decode b_X14_holds 88 = .ok (.ireturn, 1) := by decide +kernel
theorem d_X14_holds_89 : decode b_X14_holds 89 = .ok (.iload 5, 2) := by decide +kernel
theorem d_X14_holds_91 : decode b_X14_holds 91 = .ok (.ifCond .lt 19, 3) := by decide +kernel
theorem d_X14_holds_94 : decode b_X14_holds 94 = .ok (.aload_n 0, 1) := by decide +kernel
theorem d_X14_holds_95 : decode b_X14_holds 95 = .ok (.iload_n 3, 1) := by decide +kernel
theorem d_X14_holds_96 : decode b_X14_holds 96 = .ok (.iload 5, 2) := by decide +kernel
theorem d_X14_holds_98 : decode b_X14_holds 98 = .ok (.invokevirtual 713, 3) := by decide +kernel
theorem d_X14_holds_101 : decode b_X14_holds 101 = .ok (.ifCond .ne 7, 3) := by decide +kernel
theorem d_X14_holds_104 : decode b_X14_holds 104 = .ok (.iconst 1, 1) := by decide +kernel
theorem d_X14_holds_105 : decode b_X14_holds 105 = .ok (.goto 4, 3) := by decide +kernel
theorem d_X14_holds_108 : decode b_X14_holds 108 = .ok (.iconst 0, 1) := by decide +kernel
theorem d_X14_holds_109 : decode b_X14_holds 109 = .ok (.ireturn, 1) := by decide +kernel
theorem d_X14_holds_110 : decode b_X14_holds 110 = .ok (.aload_n 0, 1) := by decide +kernel
theorem d_X14_holds_111 : decode b_X14_holds 111 = .ok (.iload_n 3, 1) := by decide +kernel
theorem d_X14_holds_112 : decode b_X14_holds 112 = .ok (.iload 4, 2) := by decide +kernel
theorem d_X14_holds_114 : decode b_X14_holds 114 = .ok (.invokevirtual 710, 3) := by decide +kernel
theorem d_X14_holds_117 : decode b_X14_holds 117 = .ok (.ifCond .eq 19, 3) := by decide +kernel
theorem d_X14_holds_120 : decode b_X14_holds 120 = .ok (.aload_n 0, 1) := by decide +kernel
theorem d_X14_holds_121 : decode b_X14_holds 121 = .ok (.iload_n 3, 1) := by decide +kernel
theorem d_X14_holds_122 : decode b_X14_holds 122 = .ok (.aload_n 0, 1) := by decide +kernel
theorem d_X14_holds_123 : decode b_X14_holds 123 = .ok (.getfield 704, 3) := by decide +kernel
theorem d_X14_holds_126 : decode b_X14_holds 126 = .ok (.invokevirtual 716, 3) := by decide +kernel
theorem d_X14_holds_129 : decode b_X14_holds 129 = .ok (.ifCond .ne 7, 3) := by decide +kernel
theorem d_X14_holds_132 : decode b_X14_holds 132 = .ok (.iconst 1, 1) := by decide +kernel
theorem d_X14_holds_133 : decode b_X14_holds 133 = .ok (.goto 4, 3) := by decide +kernel
theorem d_X14_holds_136 : decode b_X14_holds 136 = .ok (.iconst 0, 1) := by decide +kernel
theorem d_X14_holds_137 : decode b_X14_holds 137 = .ok (.ireturn, 1) := by decide +kernel
theorem d_X14_init_0 : decode b_X14_init 0 = .ok (.iload_n 2, 1) := by decide +kernel
theorem d_X14_init_1 : decode b_X14_init 1 = .ok (.ifCond .ne 7, 3) := by decide +kernel
theorem d_X14_init_4 : decode b_X14_init 4 = .ok (.iload_n 3, 1) := by decide +kernel
theorem d_X14_init_5 : decode b_X14_init 5 = .ok (.ifCond .eq 10, 3) := by decide +kernel
theorem d_X14_init_8 : decode b_X14_init 8 = .ok (.aload_n 0, 1) := by decide +kernel
theorem d_X14_init_9 : decode b_X14_init 9 = .ok (.getfield 295, 3) := by decide +kernel
theorem d_X14_init_12 : decode b_X14_init 12 = .ok (.ifCond .le 4, 3) := by decide +kernel
theorem d_X14_init_15 : decode b_X14_init 15 = .ok (.return_, 1) := by decide +kernel
theorem d_X14_init_16 : decode b_X14_init 16 = .ok (.aload_n 0, 1) := by decide +kernel
theorem d_X14_init_17 : decode b_X14_init 17 = .ok (.getfield 324, 3) := by decide +kernel
theorem d_X14_init_20 : decode b_X14_init 20 = .ok (.iconst 3, 1) := by decide +kernel
theorem d_X14_init_21 : decode b_X14_init 21 = .ok (.iadd, 1) := by decide +kernel
theorem d_X14_init_22 : decode b_X14_init 22 = .ok (.aload_n 0, 1) := by decide +kernel
theorem d_X14_init_23 : decode b_X14_init 23 = .ok (.getfield 96, 3) := by decide +kernel
theorem d_X14_init_26 : decode b_X14_init 26 = .ok (.arraylength, 1) := by decide +kernel
theorem d_X14_init_27 : decode b_X14_init 27 = .ok (.if_icmp .le 50, 3) := by decide +kernel
theorem d_X14_init_30 : decode b_X14_init 30 = .ok (.iconst 2, 1) := by decide +kernel
theorem d_X14_init_31 : decode b_X14_init 31 = .ok (.aload_n 0, 1) := by decide +kernel
theorem d_X14_init_32 : decode b_X14_init 32 = .ok (.getfield 96, 3) := by decide +kernel
theorem d_X14_init_35 : decode b_X14_init 35 = .ok (.arraylength, 1) := by decide +kernel
theorem d_X14_init_36 : decode b_X14_init 36 = .ok (.imul, 1) := by decide +kernel
theorem d_X14_init_37 : decode b_X14_init 37 = .ok (.newarray .int, 2) := by decide +kernel
theorem d_X14_init_39 : decode b_X14_init 39 = .ok (.astore 4, 2) := by decide +kernel
theorem d_X14_init_41 : decode b_X14_init 41 = .ok (.iconst 0, 1) := by decide +kernel
theorem d_X14_init_42 : decode b_X14_init 42 = .ok (.istore 5, 2) := by decide +kernel
theorem d_X14_init_44 : decode b_X14_init 44 = .ok (.iload 5, 2) := by decide +kernel
theorem d_X14_init_46 : decode b_X14_init 46 = .ok (.aload_n 0, 1) := by decide +kernel
theorem d_X14_init_47 : decode b_X14_init 47 = .ok (.getfield 324, 3) := by decide +kernel
theorem d_X14_init_50 : decode b_X14_init 50 = .ok (.if_icmp .ge 21, 3) := by decide +kernel
theorem d_X14_init_53 : decode b_X14_init 53 = .ok (.aload 4, 2) := by decide +kernel
theorem d_X14_init_55 : decode b_X14_init 55 = .ok (.iload 5, 2) := by decide +kernel
theorem d_X14_init_57 : decode b_X14_init 57 = .ok (.aload_n 0, 1) := by decide +kernel
theorem d_X14_init_58 : decode b_X14_init 58 = .ok (.getfield 96, 3) := by decide +kernel
theorem d_X14_init_61 : decode b_X14_init 61 = .ok (.iload 5, 2) := by decide +kernel
theorem d_X14_init_63 : decode b_X14_init 63 = .ok (.iaload, 1) := by decide +kernel
theorem d_X14_init_64 : decode b_X14_init 64 = .ok (.iastore, 1) := by decide +kernel
theorem d_X14_init_65 : decode b_X14_init 65 = .ok (.iinc 5 1, 3) := by decide +kernel
theorem d_X14_init_68 : decode b_X14_init 68 = .ok (.goto (-24), 3) := by decide +kernel
theorem d_X14_init_71 : decode b_X14_init 71 = .ok (.aload_n 0, 1) := by decide +kernel
theorem d_X14_init_72 : decode b_X14_init 72 = .ok (.aload 4, 2) := by decide +kernel
theorem d_X14_init_74 : decode b_X14_init 74 = .ok (.putfield 96, 3) := by decide +kernel
theorem d_X14_init_77 : decode b_X14_init 77 = .ok (.aload_n 0, 1) := by decide +kernel
theorem d_X14_init_78 : decode b_X14_init 78 = .ok (.getfield 96, 3) := by decide +kernel
theorem d_X14_init_81 : decode b_X14_init 81 = .ok (.aload_n 0, 1) := by decide +kernel
theorem d_X14_init_82 : decode b_X14_init 82 = .ok (.getfield 324, 3) := by decide +kernel
theorem d_X14_init_85 : decode b_X14_init 85 = .ok (.iload_n 1, 1) := by decide +kernel
theorem d_X14_init_86 : decode b_X14_init 86 = .ok (.iastore, 1) := by decide +kernel
theorem d_X14_init_87 : decode b_X14_init 87 = .ok (.aload_n 0, 1) := by decide +kernel
theorem d_X14_init_88 : decode b_X14_init 88 = .ok (.getfield 96, 3) := by decide +kernel
theorem d_X14_init_91 : decode b_X14_init 91 = .ok (.aload_n 0, 1) := by decide +kernel
theorem d_X14_init_92 : decode b_X14_init 92 = .ok (.getfield 324, 3) := by decide +kernel
theorem d_X14_init_95 : decode b_X14_init 95 = .ok (.iconst 1, 1) := by decide +kernel
theorem d_X14_init_96 : decode b_X14_init 96 = .ok (.iadd, 1) := by decide +kernel
theorem d_X14_init_97 : decode b_X14_init 97 = .ok (.iload_n 2, 1) := by decide +kernel
theorem d_X14_init_98 : decode b_X14_init 98 = .ok (.iastore, 1) := by decide +kernel
theorem d_X14_init_99 : decode b_X14_init 99 = .ok (.aload_n 0, 1) := by decide +kernel
theorem d_X14_init_100 : decode b_X14_init 100 = .ok (.getfield 96, 3) := by decide +kernel
theorem d_X14_init_103 : decode b_X14_init 103 = .ok (.aload_n 0, 1) := by decide +kernel
theorem d_X14_init_104 : decode b_X14_init 104 = .ok (.getfield 324, 3) := by decide +kernel
theorem d_X14_init_107 : decode b_X14_init 107 = .ok (.iconst 2, 1) := by decide +kernel
theorem d_X14_init_108 : decode b_X14_init 108 = .ok (.iadd, 1) := by decide +kernel
theorem d_X14_init_109 : decode b_X14_init 109 = .ok (.iload_n 3, 1) := by decide +kernel
theorem d_X14_init_110 : decode b_X14_init 110 = .ok (.iastore, 1) := by decide +kernel
theorem d_X14_init_111 : decode b_X14_init 111 = .ok (.aload_n 0, 1) := by decide +kernel
theorem d_X14_init_112 : decode b_X14_init 112 = .ok (.dup, 1) := by decide +kernel
theorem d_X14_init_113 : decode b_X14_init 113 = .ok (.getfield 324, 3) := by decide +kernel
theorem d_X14_init_116 : decode b_X14_init 116 = .ok (.iconst 3, 1) := by decide +kernel
theorem d_X14_init_117 : decode b_X14_init 117 = .ok (.iadd, 1) := by decide +kernel
theorem d_X14_init_118 : decode b_X14_init 118 = .ok (.putfield 324, 3) := by decide +kernel
theorem d_X14_init_121 : decode b_X14_init 121 = .ok (.return_, 1) := by decide +kernel
theorem d_X14_inner_0 : decode b_X14_inner 0 = .ok (.aload_n 0, 1) := by decide +kernel
theorem d_X14_inner_1 : decode b_X14_inner 1 = .ok (.dup, 1) := by decide +kernel
theorem d_X14_inner_2 : decode b_X14_inner 2 = .ok (.getfield 346, 3) := by decide +kernel
theorem d_X14_inner_5 : decode b_X14_inner 5 = .ok (.iconst 1, 1) := by decide +kernel
theorem d_X14_inner_6 : decode b_X14_inner 6 = .ok (.iadd, 1) := by decide +kernel
theorem d_X14_inner_7 : decode b_X14_inner 7 = .ok (.putfield 346, 3) := by decide +kernel
theorem d_X14_inner_10 : decode b_X14_inner 10 = .ok (.aload_n 0, 1) := by decide +kernel
theorem d_X14_inner_11 : decode b_X14_inner 11 = .ok (.iload_n 1, 1) := by decide +kernel
theorem d_X14_inner_12 : decode b_X14_inner 12 = .ok (.iconst 1, 1) := by decide +kernel
theorem d_X14_inner_13 : decode b_X14_inner 13 = .ok (.iadd, 1) := by decide +kernel
theorem d_X14_inner_14 : decode b_X14_inner 14 = .ok (.invokevirtual 536, 3) := by decide +kernel
theorem d_X14_inner_17 : decode b_X14_inner 17 = .ok (.aload_n 0, 1) := by decide +kernel
theorem d_X14_inner_18 : decode b_X14_inner 18 = .ok (.invokevirtual 539, 3) := by decide +kernel
theorem d_X14_inner_21 : decode b_X14_inner 21 = .ok (.return_, 1) := by decide +kernel
theorem d_X14_input_0 : decode b_X14_input 0 = .ok (.aload_n 0, 1) := by decide +kernel
theorem d_X14_input_1 : decode b_X14_input 1 = .ok (.getfield 741, 3) := by decide +kernel
theorem d_X14_input_4 : decode b_X14_input 4 = .ok (.aload_n 0, 1) := by decide +kernel
theorem d_X14_input_5 : decode b_X14_input 5 = .ok (.getfield 188, 3) := by decide +kernel
theorem d_X14_input_8 : decode b_X14_input 8 = .ok (.arraylength, 1) := by decide +kernel
theorem d_X14_input_9 : decode b_X14_input 9 = .ok (.if_icmp .ne 5, 3) := by decide +kernel
theorem d_X14_input_12 : decode b_X14_input 12 = .ok (.iconst (-1), 1) := by decide +kernel
theorem d_X14_input_13 : decode b_X14_input 13 = .ok (.ireturn, 1) := by decide +kernel
theorem d_X14_input_14 : decode b_X14_input 14 = .ok (.aload_n 0, 1) := by decide +kernel
theorem d_X14_input_15 : decode b_X14_input 15 = .ok (.getfield 188, 3) := by decide +kernel
theorem d_X14_input_18 : decode b_X14_input 18 = .ok (.aload_n 0, 1) := by decide +kernel
theorem d_X14_input_19 : decode b_X14_input 19 = .ok (.getfield 741, 3) := by decide +kernel
theorem d_X14_input_22 : decode b_X14_input 22 = .ok (.iload_n 1, 1) := by decide +kernel
theorem d_X14_input_23 : decode b_X14_input 23 = .ok (.i2b, 1) := by decide +kernel
theorem d_X14_input_24 : decode b_X14_input 24 = .ok (.bastore, 1) := by decide +kernel
theorem d_X14_input_25 : decode b_X14_input 25 = .ok (.aload_n 0, 1) := by decide +kernel
theorem d_X14_input_26 : decode b_X14_input 26 = .ok (.dup, 1) := by decide +kernel
theorem d_X14_input_27 : decode b_X14_input 27 = .ok (.getfield 741, 3) := by decide +kernel
theorem d_X14_input_30 : decode b_X14_input 30 = .ok (.iconst 1, 1) := by decide +kernel
theorem d_X14_input_31 : decode b_X14_input 31 = .ok (.iadd, 1) := by decide +kernel
theorem d_X14_input_32 : decode b_X14_input 32 = .ok (.putfield 741, 3) := by decide +kernel
theorem d_X14_input_35 : decode b_X14_input 35 = .ok (.aload_n 0, 1) := by decide +kernel
theorem d_X14_input_36 : decode b_X14_input 36 = .ok (.getfield 741, 3) := by decide +kernel
theorem d_X14_input_39 : decode b_X14_input 39 = .ok (.ireturn, 1) := by decide +kernel
theorem d_X14_is_0 : decode b_X14_is 0 = .ok (.aload_n 0, 1) := by decide +kernel
theorem d_X14_is_1 : decode b_X14_is 1 = .ok (.getfield 13, 3) := by decide +kernel
theorem d_X14_is_4 : decode b_X14_is 4 = .ok (.aload_n 0, 1) := by decide +kernel
theorem d_X14_is_5 : decode b_X14_is 5 = .ok (.getfield 288, 3) := by decide +kernel
theorem d_X14_is_8 : decode b_X14_is 8 = .ok (.iaload, 1) := by decide +kernel
theorem d_X14_is_9 : decode b_X14_is 9 = .ok (.bipush 32, 2) := by decide +kernel
theorem d_X14_is_11 : decode b_X14_is 11 = .ok (.iload_n 1, 1) := by decide +kernel
theorem d_X14_is_12 : decode b_X14_is 12 = .ok (.iadd, 1) := by decide +kernel
theorem d_X14_is_13 : decode b_X14_is 13 = .ok (.if_icmp .ne 7, 3) := by decide +kernel
theorem d_X14_is_16 : decode b_X14_is 16 = .ok (.iconst 1, 1) := by decide +kernel
theorem d_X14_is_17 : decode b_X14_is 17 = .ok (.goto 4, 3) := by decide +kernel
theorem d_X14_is_20 : decode b_X14_is 20 = .ok (.iconst 0, 1) := by decide +kernel
theorem d_X14_is_21 : decode b_X14_is 21 = .ok (.ireturn, 1) := by decide +kernel
theorem d_X14_isAlike_0 : decode b_X14_isAlike 0 = .ok (.aload_n 0, 1) := by decide +kernel
theorem d_X14_isAlike_1 : decode b_X14_isAlike 1 = .ok (.getfield 76, 3) := by decide +kernel
theorem d_X14_isAlike_4 : decode b_X14_isAlike 4 = .ok (.iload_n 1, 1) := by decide +kernel
theorem d_X14_isAlike_5 : decode b_X14_isAlike 5 = .ok (.iaload, 1) := by decide +kernel
theorem d_X14_isAlike_6 : decode b_X14_isAlike 6 = .ok (.aload_n 0, 1) := by decide +kernel
theorem d_X14_isAlike_7 : decode b_X14_isAlike 7 = .ok (.getfield 76, 3) := by decide +kernel
theorem d_X14_isAlike_10 : decode b_X14_isAlike 10 = .ok (.iload_n 2, 1) := by decide +kernel
theorem d_X14_isAlike_11 : decode b_X14_isAlike 11 = .ok (.iaload, 1) := by decide +kernel
theorem d_X14_isAlike_12 : decode b_X14_isAlike 12 = .ok (.if_icmp .eq 5, 3) := by decide +kernel
theorem d_X14_isAlike_15 : decode b_X14_isAlike 15 = .ok (.iconst 0, 1) := by decide +kernel
theorem d_X14_isAlike_16 : decode b_X14_isAlike 16 = .ok (.ireturn, 1) := by decide +kernel
theorem d_X14_isAlike_17 : decode b_X14_isAlike 17 = .ok (.iconst 0, 1) := by decide +kernel
theorem d_X14_isAlike_18 : decode b_X14_isAlike 18 = .ok (.istore_n 3, 1) := by decide +kernel
theorem d_X14_isAlike_19 : decode b_X14_isAlike 19 = .ok (.iload_n 3, 1) := by decide +kernel
theorem d_X14_isAlike_20 : decode b_X14_isAlike 20 = .ok (.aload_n 0, 1) := by decide +kernel
theorem d_X14_isAlike_21 : decode b_X14_isAlike 21 = .ok (.getfield 76, 3) := by decide +kernel
theorem d_X14_isAlike_24 : decode b_X14_isAlike 24 = .ok (.iload_n 1, 1) := by decide +kernel
theorem d_X14_isAlike_25 : decode b_X14_isAlike 25 = .ok (.iaload, 1) := by decide +kernel
theorem d_X14_isAlike_26 : decode b_X14_isAlike 26 = .ok (.if_icmp .ge 40, 3) := by decide +kernel
theorem d_X14_isAlike_29 : decode b_X14_isAlike 29 = .ok (.aload_n 0, 1) := by decide +kernel
theorem d_X14_isAlike_30 : decode b_X14_isAlike 30 = .ok (.getfield 80, 3) := by decide +kernel
theorem d_X14_isAlike_33 : decode b_X14_isAlike 33 = .ok (.aload_n 0, 1) := by decide +kernel
theorem d_X14_isAlike_34 : decode b_X14_isAlike 34 = .ok (.getfield 73, 3) := by decide +kernel
theorem d_X14_isAlike_37 : decode b_X14_isAlike 37 = .ok (.iload_n 1, 1) := by decide +kernel
theorem d_X14_isAlike_38 : decode b_X14_isAlike 38 = .ok (.iaload, 1) := by decide +kernel
theorem d_X14_isAlike_39 : decode b_X14_isAlike 39 = .ok (.iload_n 3, 1) := by decide +kernel
theorem d_X14_isAlike_40 : decode b_X14_isAlike 40 = .ok (.iadd, 1) := by decide +kernel
theorem d_X14_isAlike_41 : decode b_X14_isAlike 41 = .ok (.baload, 1) := by decide +kernel
theorem d_X14_isAlike_42 : decode b_X14_isAlike 42 = .ok (.aload_n 0, 1) := by decide +kernel
theorem d_X14_isAlike_43 : decode b_X14_isAlike 43 = .ok (.getfield 80, 3) := by decide +kernel
theorem d_X14_isAlike_46 : decode b_X14_isAlike 46 = .ok (.aload_n 0, 1) := by decide +kernel
theorem d_X14_isAlike_47 : decode b_X14_isAlike 47 = .ok (.getfield 73, 3) := by decide +kernel
theorem d_X14_isAlike_50 : decode b_X14_isAlike 50 = .ok (.iload_n 2, 1) := by decide +kernel
theorem d_X14_isAlike_51 : decode b_X14_isAlike 51 = .ok (.iaload, 1) := by decide +kernel
theorem d_X14_isAlike_52 : decode b_X14_isAlike 52 = .ok (.iload_n 3, 1) := by decide +kernel
theorem d_X14_isAlike_53 : decode b_X14_isAlike 53 = .ok (.iadd, 1) := by decide +kernel
theorem d_X14_isAlike_54 : decode b_X14_isAlike 54 = .ok (.baload, 1) := by decide +kernel
theorem d_X14_isAlike_55 : decode b_X14_isAlike 55 = .ok (.if_icmp .eq 5, 3) := by decide +kernel
theorem d_X14_isAlike_58 : decode b_X14_isAlike 58 = .ok (.iconst 0, 1) := by decide +kernel
theorem d_X14_isAlike_59 : decode b_X14_isAlike 59 = .ok (.ireturn, 1) := by decide +kernel
theorem d_X14_isAlike_60 : decode b_X14_isAlike 60 = .ok (.iinc 3 1, 3) := by decide +kernel
theorem d_X14_isAlike_63 : decode b_X14_isAlike 63 = .ok (.goto (-44), 3) := by decide +kernel
theorem d_X14_isAlike_66 : decode b_X14_isAlike 66 = .ok (.iconst 1, 1) := by decide +kernel
theorem d_X14_isAlike_67 : decode b_X14_isAlike 67 = .ok (.ireturn, 1) := by decide +kernel
theorem d_X14_isAllowed_0 : decode b_X14_isAllowed 0 = .ok (.iload_n 0, 1) := by decide +kernel
theorem d_X14_isAllowed_1 : decode b_X14_isAllowed 1 = .ok (.bipush 9, 2) := by decide +kernel
theorem d_X14_isAllowed_3 : decode b_X14_isAllowed 3 = .ok (.if_icmp .eq 27, 3) := by decide +kernel
theorem d_X14_isAllowed_6 : decode b_X14_isAllowed 6 = .ok (.iload_n 0, 1) := by decide +kernel
theorem d_X14_isAllowed_7 : decode b_X14_isAllowed 7 = .ok (.bipush 10, 2) := by decide +kernel
theorem d_X14_isAllowed_9 : decode b_X14_isAllowed 9 = .ok (.if_icmp .eq 21, 3) := by decide +kernel
theorem d_X14_isAllowed_12 : decode b_X14_isAllowed 12 = .ok (.iload_n 0, 1) := by decide +kernel
theorem d_X14_isAllowed_13 : decode b_X14_isAllowed 13 = .ok (.bipush 13, 2) := by decide +kernel
theorem d_X14_isAllowed_15 : decode b_X14_isAllowed 15 = .ok (.if_icmp .eq 15, 3) := by decide +kernel
theorem d_X14_isAllowed_18 : decode b_X14_isAllowed 18 = .ok (.iload_n 0, 1) := by decide +kernel
theorem d_X14_isAllowed_19 : decode b_X14_isAllowed 19 = .ok (.bipush 32, 2) := by decide +kernel
theorem d_X14_isAllowed_21 : decode b_X14_isAllowed 21 = .ok (.if_icmp .lt 13, 3) := by decide +kernel
theorem d_X14_isAllowed_24 : decode b_X14_isAllowed 24 = .ok (.iload_n 0, 1) := by decide +kernel
theorem d_X14_isAllowed_25 : decode b_X14_isAllowed 25 = .ok (.bipush 126, 2) := by decide +kernel
theorem d_X14_isAllowed_27 : decode b_X14_isAllowed 27 = .ok (.if_icmp .gt 7, 3) := by decide +kernel
theorem d_X14_isAllowed_30 : decode b_X14_isAllowed 30 = .ok (.iconst 1, 1) := by decide +kernel
theorem d_X14_isAllowed_31 : decode b_X14_isAllowed 31 = .ok (.goto 4, 3) := by decide +kernel
theorem d_X14_isAllowed_34 : decode b_X14_isAllowed 34 = .ok (.iconst 0, 1) := by decide +kernel
theorem d_X14_isAllowed_35 : decode b_X14_isAllowed 35 = .ok (.ireturn, 1) := by decide +kernel
theorem d_X14_isAny_0 : decode b_X14_isAny 0 = .ok (.aload_n 0, 1) := by decide +kernel
theorem d_X14_isAny_1 : decode b_X14_isAny 1 = .ok (.getfield 352, 3) := by decide +kernel
theorem d_X14_isAny_4 : decode b_X14_isAny 4 = .ok (.ifCond .lt 7, 3) := by decide +kernel
theorem d_X14_isAny_7 : decode b_X14_isAny 7 = .ok (.iconst 1, 1) := by decide +kernel
theorem d_X14_isAny_8 : decode b_X14_isAny 8 = .ok (.goto 4, 3) := by decide +kernel
theorem d_X14_isAny_11 : decode b_X14_isAny 11 = .ok (.iconst 0, 1) := by decide +kernel
theorem d_X14_isAny_12 : decode b_X14_isAny 12 = .ok (.ireturn, 1) := by decide +kernel
theorem d_X14_isAssignment_0 : decode b_X14_isAssignment 0 = .ok (.iload_n 0, 1) := by decide +kernel
theorem d_X14_isAssignment_1 : decode b_X14_isAssignment 1 = .ok (.ifCond .lt 9, 3) := by decide +kernel
theorem d_X14_isAssignment_4 : decode b_X14_isAssignment 4 = .ok (.iload_n 0, 1) := by decide +kernel
theorem d_X14_isAssignment_5 : decode b_X14_isAssignment 5 = .ok (.bipush 9, 2) := by decide +kernel
theorem d_X14_isAssignment_7 : decode b_X14_isAssignment 7 = .ok (.if_icmp .le 9, 3) := by decide +kernel
theorem d_X14_isAssignment_10 : decode b_X14_isAssignment 10 = .ok (.iload_n 0, 1) := by decide +kernel
theorem d_X14_isAssignment_11 : decode b_X14_isAssignment 11 = .ok (.bipush 30, 2) := by decide +kernel
theorem d_X14_isAssignment_13 : decode b_X14_isAssignment 13 = .ok (.if_icmp .ne 7, 3) := by decide +kernel
theorem d_X14_isAssignment_16 : decode b_X14_isAssignment 16 = .ok (.iconst 1, 1) := by decide +kernel
theorem d_X14_isAssignment_17 : decode b_X14_isAssignment 17 = .ok (.goto 4, 3) := by decide +kernel
theorem d_X14_isAssignment_20 : decode b_X14_isAssignment 20 = .ok (.iconst 0, 1) := by decide +kernel
theorem d_X14_isAssignment_21 : decode b_X14_isAssignment 21 = .ok (.ireturn, 1) := by decide +kernel
theorem d_X14_isBlank_0 : decode b_X14_isBlank 0 = .ok (.iload_n 0, 1) := by decide +kernel
theorem d_X14_isBlank_1 : decode b_X14_isBlank 1 = .ok (.bipush 9, 2) := by decide +kernel
theorem d_X14_isBlank_3 : decode b_X14_isBlank 3 = .ok (.if_icmp .eq 21, 3) := by decide +kernel
theorem d_X14_isBlank_6 : decode b_X14_isBlank 6 = .ok (.iload_n 0, 1) := by decide +kernel
theorem d_X14_isBlank_7 : decode b_X14_isBlank 7 = .ok (.bipush 10, 2) := by decide +kernel
theorem d_X14_isBlank_9 : decode b_X14_isBlank 9 = .ok (.if_icmp .eq 15, 3) := by decide +kernel
theorem d_X14_isBlank_12 : decode b_X14_isBlank 12 = .ok (.iload_n 0, 1) := by decide +kernel
theorem d_X14_isBlank_13 : decode b_X14_isBlank 13 = .ok (.bipush 13, 2) := by decide +kernel
theorem d_X14_isBlank_15 : decode b_X14_isBlank 15 = .ok (.if_icmp .eq 9, 3) := by decide +kernel
theorem d_X14_isBlank_18 : decode b_X14_isBlank 18 = .ok (.iload_n 0, 1) := by decide +kernel
theorem d_X14_isBlank_19 : decode b_X14_isBlank 19 = .ok (.bipush 32, 2) := by decide +kernel
theorem d_X14_isBlank_21 : decode b_X14_isBlank 21 = .ok (.if_icmp .ne 7, 3) := by decide +kernel
theorem d_X14_isBlank_24 : decode b_X14_isBlank 24 = .ok (.iconst 1, 1) := by decide +kernel
theorem d_X14_isBlank_25 : decode b_X14_isBlank 25 = .ok (.goto 4, 3) := by decide +kernel
theorem d_X14_isBlank_28 : decode b_X14_isBlank 28 = .ok (.iconst 0, 1) := by decide +kernel
theorem d_X14_isBlank_29 : decode b_X14_isBlank 29 = .ok (.ireturn, 1) := by decide +kernel
theorem d_X14_isCell_0 : decode b_X14_isCell 0 = .ok (.iload_n 0, 1) := by decide +kernel
theorem d_X14_isCell_1 : decode b_X14_isCell 1 = .ok (.bipush 16, 2) := by decide +kernel
theorem d_X14_isCell_3 : decode b_X14_isCell 3 = .ok (.if_icmp .lt 13, 3) := by decide +kernel
theorem d_X14_isCell_6 : decode b_X14_isCell 6 = .ok (.iload_n 0, 1) := by decide +kernel
theorem d_X14_isCell_7 : decode b_X14_isCell 7 = .ok (.ldc 168, 2) := by decide +kernel
theorem d_X14_isCell_9 : decode b_X14_isCell 9 = .ok (.if_icmp .ge 7, 3) := by decide +kernel
theorem d_X14_isCell_12 : decode b_X14_isCell 12 = .ok (.iconst 1, 1) := by decide +kernel
theorem d_X14_isCell_13 : decode b_X14_isCell 13 = .ok (.goto 4, 3) := by decide +kernel
theorem d_X14_isCell_16 : decode b_X14_isCell 16 = .ok (.iconst 0, 1) := by decide +kernel
theorem d_X14_isCell_17 : decode b_X14_isCell 17 = .ok (.ireturn, 1) := by decide +kernel
theorem d_X14_isDigit_0 : decode b_X14_isDigit 0 = .ok (.iload_n 0, 1) := by decide +kernel
theorem d_X14_isDigit_1 : decode b_X14_isDigit 1 = .ok (.bipush 48, 2) := by decide +kernel
theorem d_X14_isDigit_3 : decode b_X14_isDigit 3 = .ok (.if_icmp .lt 13, 3) := by decide +kernel
theorem d_X14_isDigit_6 : decode b_X14_isDigit 6 = .ok (.iload_n 0, 1) := by decide +kernel
theorem d_X14_isDigit_7 : decode b_X14_isDigit 7 = .ok (.bipush 57, 2) := by decide +kernel
theorem d_X14_isDigit_9 : decode b_X14_isDigit 9 = .ok (.if_icmp .gt 7, 3) := by decide +kernel
theorem d_X14_isDigit_12 : decode b_X14_isDigit 12 = .ok (.iconst 1, 1) := by decide +kernel
theorem d_X14_isDigit_13 : decode b_X14_isDigit 13 = .ok (.goto 4, 3) := by decide +kernel
theorem d_X14_isDigit_16 : decode b_X14_isDigit 16 = .ok (.iconst 0, 1) := by decide +kernel
theorem d_X14_isDigit_17 : decode b_X14_isDigit 17 = .ok (.ireturn, 1) := by decide +kernel
theorem d_X14_isFault_0 : decode b_X14_isFault 0 = .ok (.iconst 0, 1) := by decide +kernel
theorem d_X14_isFault_1 : decode b_X14_isFault 1 = .ok (.istore_n 3, 1) := by decide +kernel
theorem d_X14_isFault_2 : decode b_X14_isFault 2 = .ok (.iload_n 3, 1) := by decide +kernel
theorem d_X14_isFault_3 : decode b_X14_isFault 3 = .ok (.iload_n 2, 1) := by decide +kernel
theorem d_X14_isFault_4 : decode b_X14_isFault 4 = .ok (.if_icmp .ge 90, 3) := by decide +kernel
theorem d_X14_isFault_7 : decode b_X14_isFault 7 = .ok (.iconst 0, 1) := by decide +kernel
theorem d_X14_isFault_8 : decode b_X14_isFault 8 = .ok (.istore 4, 2) := by decide +kernel
theorem d_X14_isFault_10 : decode b_X14_isFault 10 = .ok (.aload_n 0, 1) := by decide +kernel
theorem d_X14_isFault_11 : decode b_X14_isFault 11 = .ok (.getfield 86, 3) := by decide +kernel
theorem d_X14_isFault_14 : decode b_X14_isFault 14 = .ok (.aload_n 0, 1) := by decide +kernel
theorem d_X14_isFault_15 : decode b_X14_isFault 15 = .ok (.getfield 141, 3) := by decide +kernel
theorem d_X14_isFault_18 : decode b_X14_isFault 18 = .ok (.iload_n 3, 1) := by decide +kernel
theorem d_X14_isFault_19 : decode b_X14_isFault 19 = .ok (.iaload, 1) := by decide +kernel
theorem d_X14_isFault_20 : decode b_X14_isFault 20 = .ok (.iconst 1, 1) := by decide +kernel
theorem d_X14_isFault_21 : decode b_X14_isFault 21 = .ok (.isub, 1) := by decide +kernel
theorem d_X14_isFault_22 : decode b_X14_isFault 22 = .ok (.iaload, 1) := by decide +kernel
theorem d_X14_isFault_23 : decode b_X14_isFault 23 = .ok (.istore 5, 2) := by decide +kernel
theorem d_X14_isFault_25 : decode b_X14_isFault 25 = .ok (.iload 5, 2) := by decide +kernel
theorem d_X14_isFault_27 : decode b_X14_isFault 27 = .ok (.aload_n 0, 1) := by decide +kernel
theorem d_X14_isFault_28 : decode b_X14_isFault 28 = .ok (.getfield 86, 3) := by decide +kernel
theorem d_X14_isFault_31 : decode b_X14_isFault 31 = .ok (.aload_n 0, 1) := by decide +kernel
theorem d_X14_isFault_32 : decode b_X14_isFault 32 = .ok (.getfield 141, 3) := by decide +kernel
theorem d_X14_isFault_35 : decode b_X14_isFault 35 = .ok (.iload_n 3, 1) := by decide +kernel
theorem d_X14_isFault_36 : decode b_X14_isFault 36 = .ok (.iaload, 1) := by decide +kernel
theorem d_X14_isFault_37 : decode b_X14_isFault 37 = .ok (.iaload, 1) := by decide +kernel
theorem d_X14_isFault_38 : decode b_X14_isFault 38 = .ok (.if_icmp .ge 50, 3) := by decide +kernel
theorem d_X14_isFault_41 : decode b_X14_isFault 41 = .ok (.aload_n 0, 1) := by decide +kernel
theorem d_X14_isFault_42 : decode b_X14_isFault 42 = .ok (.getfield 53, 3) := by decide +kernel
theorem d_X14_isFault_45 : decode b_X14_isFault 45 = .ok (.iload 5, 2) := by decide +kernel
theorem d_X14_isFault_47 : decode b_X14_isFault 47 = .ok (.baload, 1) := by decide +kernel
theorem d_X14_isFault_48 : decode b_X14_isFault 48 = .ok (.ifCond .eq 6, 3) := by decide +kernel
theorem d_X14_isFault_51 : decode b_X14_isFault 51 = .ok (.goto 31, 3) := by decide +kernel
theorem d_X14_isFault_54 : decode b_X14_isFault 54 = .ok (.aload_n 0, 1) := by decide +kernel
theorem d_X14_isFault_55 : decode b_X14_isFault 55 = .ok (.iload_n 1, 1) := by decide +kernel
theorem d_X14_isFault_56 : decode b_X14_isFault 56 = .ok (.iload_n 3, 1) := by decide +kernel
theorem d_X14_isFault_57 : decode b_X14_isFault 57 = .ok (.iload 5, 2) := by decide +kernel
theorem d_X14_isFault_59 : decode b_X14_isFault 59 = .ok (.iload_n 2, 1) := by decide +kernel
theorem d_X14_isFault_60 : decode b_X14_isFault 60 = .ok (.invokevirtual 719, 3) := by decide +kernel
theorem d_X14_isFault_63 : decode b_X14_isFault 63 = .ok (.ifCond .eq 16, 3) := by decide +kernel
theorem d_X14_isFault_66 : decode b_X14_isFault 66 = .ok (.aload_n 0, 1) := by decide +kernel
theorem d_X14_isFault_67 : decode b_X14_isFault 67 = .ok (.iload_n 3, 1) := by decide +kernel
theorem d_X14_isFault_68 : decode b_X14_isFault 68 = .ok (.putfield 153, 3) := by decide +kernel
theorem d_X14_isFault_71 : decode b_X14_isFault 71 = .ok (.aload_n 0, 1) := by decide +kernel
theorem d_X14_isFault_72 : decode b_X14_isFault 72 = .ok (.iload 4, 2) := by decide +kernel
theorem d_X14_isFault_74 : decode b_X14_isFault 74 = .ok (.putfield 156, 3) := by decide +kernel
theorem d_X14_isFault_77 : decode b_X14_isFault 77 = .ok (.iconst 1, 1) := by decide +kernel
theorem d_X14_isFault_78 : decode b_X14_isFault 78 = .ok (.ireturn, 1) := by decide +kernel
theorem d_X14_isFault_79 : decode b_X14_isFault 79 = .ok (.iinc 4 1, 3) := by decide +kernel
theorem d_X14_isFault_82 : decode b_X14_isFault 82 = .ok (.iinc 5 1, 3) := by decide +kernel
theorem d_X14_isFault_85 : decode b_X14_isFault 85 = .ok (.goto (-60), 3) := by decide +kernel
theorem d_X14_isFault_88 : decode b_X14_isFault 88 = .ok (.iinc 3 1, 3) := by decide +kernel
theorem d_X14_isFault_91 : decode b_X14_isFault 91 = .ok (.goto (-89), 3) := by decide +kernel
theorem d_X14_isFault_94 : decode b_X14_isFault 94 = .ok (.iconst 0, 1) := by decide +kernel
theorem d_X14_isFault_95 : decode b_X14_isFault 95 = .ok (.ireturn, 1) := by decide +kernel
theorem d_X14_isHeldHere_0 : decode b_X14_isHeldHere 0 = .ok (.aload_n 0, 1) := by decide +kernel
theorem d_X14_isHeldHere_1 : decode b_X14_isHeldHere 1 = .ok (.getfield 340, 3) := by decide +kernel
theorem d_X14_isHeldHere_4 : decode b_X14_isHeldHere 4 = .ok (.iconst 1, 1) := by decide +kernel
theorem d_X14_isHeldHere_5 : decode b_X14_isHeldHere 5 = .ok (.isub, 1) := by decide +kernel
theorem d_X14_isHeldHere_6 : decode b_X14_isHeldHere 6 = .ok (.istore_n 2, 1) := by decide +kernel
theorem d_X14_isHeldHere_7 : decode b_X14_isHeldHere 7 = .ok (.iload_n 2, 1) := by decide +kernel
theorem d_X14_isHeldHere_8 : decode b_X14_isHeldHere 8 = .ok (.ifCond .lt 38, 3) := by decide +kernel
theorem d_X14_isHeldHere_11 : decode b_X14_isHeldHere 11 = .ok (.aload_n 0, 1) := by decide +kernel
theorem d_X14_isHeldHere_12 : decode b_X14_isHeldHere 12 = .ok (.getfield 129, 3) := by decide +kernel
theorem d_X14_isHeldHere_15 : decode b_X14_isHeldHere 15 = .ok (.iload_n 2, 1) := by decide +kernel
theorem d_X14_isHeldHere_16 : decode b_X14_isHeldHere 16 = .ok (.iaload, 1) := by decide +kernel
theorem d_X14_isHeldHere_17 : decode b_X14_isHeldHere 17 = .ok (.aload_n 0, 1) := by decide +kernel
theorem d_X14_isHeldHere_18 : decode b_X14_isHeldHere 18 = .ok (.getfield 346, 3) := by decide +kernel
theorem d_X14_isHeldHere_21 : decode b_X14_isHeldHere 21 = .ok (.if_icmp .ne 25, 3) := by decide +kernel
theorem d_X14_isHeldHere_24 : decode b_X14_isHeldHere 24 = .ok (.aload_n 0, 1) := by decide +kernel
theorem d_X14_isHeldHere_25 : decode b_X14_isHeldHere 25 = .ok (.aload_n 0, 1) := by decide +kernel
theorem d_X14_isHeldHere_26 : decode b_X14_isHeldHere 26 = .ok (.getfield 123, 3) := by decide +kernel
theorem d_X14_isHeldHere_29 : decode b_X14_isHeldHere 29 = .ok (.iload_n 2, 1) := by decide +kernel
theorem d_X14_isHeldHere_30 : decode b_X14_isHeldHere 30 = .ok (.iaload, 1) := by decide +kernel
theorem d_X14_isHeldHere_31 : decode b_X14_isHeldHere 31 = .ok (.iload_n 1, 1) := by decide +kernel
theorem d_X14_isHeldHere_32 : decode b_X14_isHeldHere 32 = .ok (.invokevirtual 343, 3) := by decide +kernel
theorem d_X14_isHeldHere_35 : decode b_X14_isHeldHere 35 = .ok (.ifCond .eq 5, 3) := by decide +kernel
theorem d_X14_isHeldHere_38 : decode b_X14_isHeldHere 38 = .ok (.iconst 1, 1) := by decide +kernel
theorem d_X14_isHeldHere_39 : decode b_X14_isHeldHere 39 = .ok (.ireturn, 1) := by decide +kernel
theorem d_X14_isHeldHere_40 : decode b_X14_isHeldHere 40 = .ok (.iinc 2 (-1), 3) := by decide +kernel
theorem d_X14_isHeldHere_43 : decode b_X14_isHeldHere 43 = .ok (.goto (-36), 3) := by decide +kernel
theorem d_X14_isHeldHere_46 : decode b_X14_isHeldHere 46 = .ok (.iconst 0, 1) := by decide +kernel
theorem d_X14_isHeldHere_47 : decode b_X14_isHeldHere 47 = .ok (.ireturn, 1) := by decide +kernel
theorem d_X14_isInitial_0 : decode b_X14_isInitial 0 = .ok (.iload_n 2, 1) := by decide +kernel
theorem d_X14_isInitial_1 : decode b_X14_isInitial 1 = .ok (.ifCond .ne 26, 3) := by decide +kernel
theorem d_X14_isInitial_4 : decode b_X14_isInitial 4 = .ok (.aload_n 1, 1) := by decide +kernel
theorem d_X14_isInitial_5 : decode b_X14_isInitial 5 = .ok (.getfield 454, 3) := by decide +kernel
theorem d_X14_isInitial_8 : decode b_X14_isInitial 8 = .ok (.iconst 1, 1) := by decide +kernel
theorem d_X14_isInitial_9 : decode b_X14_isInitial 9 = .ok (.if_icmp .ne 14, 3) := by decide +kernel
theorem d_X14_isInitial_12 : decode b_X14_isInitial 12 = .ok (.aload_n 1, 1) := by decide +kernel
theorem d_X14_isInitial_13 : decode b_X14_isInitial 13 = .ok (.invokestatic 406, 3) := by decide +kernel
theorem d_X14_isInitial_16 : decode b_X14_isInitial 16 = .ok (.ifCond .eq 7, 3) := by decide +kernel
theorem d_X14_isInitial_19 : decode b_X14_isInitial 19 = .ok (.iconst 1, 1) := by decide +kernel
theorem d_X14_isInitial_20 : decode b_X14_isInitial 20 = .ok (.goto 35, 3) := by decide +kernel
theorem d_X14_isInitial_23 : decode b_X14_isInitial 23 = .ok (.iconst 0, 1) := by decide +kernel
theorem d_X14_isInitial_24 : decode b_X14_isInitial 24 = .ok (.goto 31, 3) := by decide +kernel
theorem d_X14_isInitial_27 : decode b_X14_isInitial 27 = .ok (.aload_n 1, 1) := by decide +kernel
theorem d_X14_isInitial_28 : decode b_X14_isInitial 28 = .ok (.getfield 357, 3) := by decide +kernel
theorem d_X14_isInitial_31 : decode b_X14_isInitial 31 = .ok (.ifCond .ne 19, 3) := by decide +kernel
theorem d_X14_isInitial_34 : decode b_X14_isInitial 34 = .ok (.aload_n 1, 1) := by decide +kernel
theorem d_X14_isInitial_35 : decode b_X14_isInitial 35 = .ok (.getfield 454, 3) := by decide +kernel
theorem d_X14_isInitial_38 : decode b_X14_isInitial 38 = .ok (.iconst 2, 1) := by decide +kernel
theorem d_X14_isInitial_39 : decode b_X14_isInitial 39 = .ok (.if_icmp .ne 15, 3) := by decide +kernel
theorem d_X14_isInitial_42 : decode b_X14_isInitial 42 = .ok (.aload_n 1, 1) := by decide +kernel
theorem d_X14_isInitial_43 : decode b_X14_isInitial 43 = .ok (.getfield 352, 3) := by decide +kernel
theorem d_X14_isInitial_46 : decode b_X14_isInitial 46 = .ok (.iload_n 2, 1) := by decide +kernel
theorem d_X14_isInitial_47 : decode b_X14_isInitial 47 = .ok (.if_icmp .ne 7, 3) := by decide +kernel
theorem d_X14_isInitial_50 : decode b_X14_isInitial 50 = .ok (.iconst 1, 1) := by decide +kernel
theorem d_X14_isInitial_51 : decode b_X14_isInitial 51 = .ok (.goto 4, 3) := by decide +kernel
theorem d_X14_isInitial_54 : decode b_X14_isInitial 54 = .ok (.iconst 0, 1) := by decide +kernel
theorem d_X14_isInitial_55 : decode b_X14_isInitial 55 = .ok (.ireturn, 1) := by decide +kernel
theorem d_X14_isInt_0 : decode b_X14_isInt 0 = .ok (.aload_n 0, 1) := by decide +kernel
theorem d_X14_isInt_1 : decode b_X14_isInt 1 = .ok (.getfield 352, 3) := by decide +kernel
theorem d_X14_isInt_4 : decode b_X14_isInt 4 = .ok (.ifCond .ne 7, 3) := by decide +kernel
theorem d_X14_isInt_7 : decode b_X14_isInt 7 = .ok (.iconst 1, 1) := by decide +kernel
theorem d_X14_isInt_8 : decode b_X14_isInt 8 = .ok (.goto 4, 3) := by decide +kernel
theorem d_X14_isInt_11 : decode b_X14_isInt 11 = .ok (.iconst 0, 1) := by decide +kernel
theorem d_X14_isInt_12 : decode b_X14_isInt 12 = .ok (.ireturn, 1) := by decide +kernel
theorem d_X14_isLetter_0 : decode b_X14_isLetter 0 = .ok (.iload_n 0, 1) := by decide +kernel
theorem d_X14_isLetter_1 : decode b_X14_isLetter 1 = .ok (.bipush 97, 2) := by decide +kernel
theorem d_X14_isLetter_3 : decode b_X14_isLetter 3 = .ok (.if_icmp .lt 9, 3) := by decide +kernel
theorem d_X14_isLetter_6 : decode b_X14_isLetter 6 = .ok (.iload_n 0, 1) := by decide +kernel
theorem d_X14_isLetter_7 : decode b_X14_isLetter 7 = .ok (.bipush 122, 2) := by decide +kernel
theorem d_X14_isLetter_9 : decode b_X14_isLetter 9 = .ok (.if_icmp .le 21, 3) := by decide +kernel
theorem d_X14_isLetter_12 : decode b_X14_isLetter 12 = .ok (.iload_n 0, 1) := by decide +kernel
theorem d_X14_isLetter_13 : decode b_X14_isLetter 13 = .ok (.bipush 65, 2) := by decide +kernel
theorem d_X14_isLetter_15 : decode b_X14_isLetter 15 = .ok (.if_icmp .lt 9, 3) := by decide +kernel
theorem d_X14_isLetter_18 : decode b_X14_isLetter 18 = .ok (.iload_n 0, 1) := by decide +kernel
theorem d_X14_isLetter_19 : decode b_X14_isLetter 19 = .ok (.bipush 90, 2) := by decide +kernel
theorem d_X14_isLetter_21 : decode b_X14_isLetter 21 = .ok (.if_icmp .le 9, 3) := by decide +kernel
theorem d_X14_isLetter_24 : decode b_X14_isLetter 24 = .ok (.iload_n 0, 1) := by decide +kernel
theorem d_X14_isLetter_25 : decode b_X14_isLetter 25 = .ok (.bipush 95, 2) := by decide +kernel
theorem d_X14_isLetter_27 : decode b_X14_isLetter 27 = .ok (.if_icmp .ne 7, 3) := by decide +kernel
theorem d_X14_isLetter_30 : decode b_X14_isLetter 30 = .ok (.iconst 1, 1) := by decide +kernel
theorem d_X14_isLetter_31 : decode b_X14_isLetter 31 = .ok (.goto 4, 3) := by decide +kernel
theorem d_X14_isLetter_34 : decode b_X14_isLetter 34 = .ok (.iconst 0, 1) := by decide +kernel
theorem d_X14_isLetter_35 : decode b_X14_isLetter 35 = .ok (.ireturn, 1) := by decide +kernel
theorem d_X14_isNamed_0 : decode b_X14_isNamed 0 = .ok (.aload_n 0, 1) := by decide +kernel
theorem d_X14_isNamed_1 : decode b_X14_isNamed 1 = .ok (.getfield 20, 3) := by decide +kernel
theorem d_X14_isNamed_4 : decode b_X14_isNamed 4 = .ok (.iload_n 2, 1) := by decide +kernel
theorem d_X14_isNamed_5 : decode b_X14_isNamed 5 = .ok (.iaload, 1) := by decide +kernel
theorem d_X14_isNamed_6 : decode b_X14_isNamed 6 = .ok (.aload_n 0, 1) := by decide +kernel
theorem d_X14_isNamed_7 : decode b_X14_isNamed 7 = .ok (.getfield 17, 3) := by decide +kernel
theorem d_X14_isNamed_10 : decode b_X14_isNamed 10 = .ok (.iload_n 2, 1) := by decide +kernel
theorem d_X14_isNamed_11 : decode b_X14_isNamed 11 = .ok (.iaload, 1) := by decide +kernel
theorem d_X14_isNamed_12 : decode b_X14_isNamed 12 = .ok (.isub, 1) := by decide +kernel
theorem d_X14_isNamed_13 : decode b_X14_isNamed 13 = .ok (.istore_n 3, 1) := by decide +kernel
theorem d_X14_isNamed_14 : decode b_X14_isNamed 14 = .ok (.aload_n 0, 1) := by decide +kernel
theorem d_X14_isNamed_15 : decode b_X14_isNamed 15 = .ok (.getfield 76, 3) := by decide +kernel
theorem d_X14_isNamed_18 : decode b_X14_isNamed 18 = .ok (.iload_n 1, 1) := by decide +kernel
theorem d_X14_isNamed_19 : decode b_X14_isNamed 19 = .ok (.iaload, 1) := by decide +kernel
theorem d_X14_isNamed_20 : decode b_X14_isNamed 20 = .ok (.iload_n 3, 1) := by decide +kernel
theorem d_X14_isNamed_21 : decode b_X14_isNamed 21 = .ok (.if_icmp .eq 5, 3) := by decide +kernel
theorem d_X14_isNamed_24 : decode b_X14_isNamed 24 = .ok (.iconst 0, 1) := by decide +kernel
theorem d_X14_isNamed_25 : decode b_X14_isNamed 25 = .ok (.ireturn, 1) := by decide +kernel
theorem d_X14_isNamed_26 : decode b_X14_isNamed 26 = .ok (.iconst 0, 1) := by decide +kernel
theorem d_X14_isNamed_27 : decode b_X14_isNamed 27 = .ok (.istore 4, 2) := by decide +kernel
theorem d_X14_isNamed_29 : decode b_X14_isNamed 29 = .ok (.iload 4, 2) := by decide +kernel
theorem d_X14_isNamed_31 : decode b_X14_isNamed 31 = .ok (.iload_n 3, 1) := by decide +kernel
theorem d_X14_isNamed_32 : decode b_X14_isNamed 32 = .ok (.if_icmp .ge 42, 3) := by decide +kernel
theorem d_X14_isNamed_35 : decode b_X14_isNamed 35 = .ok (.aload_n 0, 1) := by decide +kernel
theorem d_X14_isNamed_36 : decode b_X14_isNamed 36 = .ok (.getfield 80, 3) := by decide +kernel
theorem d_X14_isNamed_39 : decode b_X14_isNamed 39 = .ok (.aload_n 0, 1) := by decide +kernel
theorem d_X14_isNamed_40 : decode b_X14_isNamed 40 = .ok (.getfield 73, 3) := by decide +kernel
theorem d_X14_isNamed_43 : decode b_X14_isNamed 43 = .ok (.iload_n 1, 1) := by decide +kernel
theorem d_X14_isNamed_44 : decode b_X14_isNamed 44 = .ok (.iaload, 1) := by decide +kernel
theorem d_X14_isNamed_45 : decode b_X14_isNamed 45 = .ok (.iload 4, 2) := by decide +kernel
theorem d_X14_isNamed_47 : decode b_X14_isNamed 47 = .ok (.iadd, 1) := by decide +kernel
theorem d_X14_isNamed_48 : decode b_X14_isNamed 48 = .ok (.baload, 1) := by decide +kernel
theorem d_X14_isNamed_49 : decode b_X14_isNamed 49 = .ok (.aload_n 0, 1) := by decide +kernel
theorem d_X14_isNamed_50 : decode b_X14_isNamed 50 = .ok (.getfield 9, 3) := by decide +kernel
theorem d_X14_isNamed_53 : decode b_X14_isNamed 53 = .ok (.aload_n 0, 1) := by decide +kernel
theorem d_X14_isNamed_54 : decode b_X14_isNamed 54 = .ok (.getfield 17, 3) := by decide +kernel
theorem d_X14_isNamed_57 : decode b_X14_isNamed 57 = .ok (.iload_n 2, 1) := by decide +kernel
theorem d_X14_isNamed_58 : decode b_X14_isNamed 58 = .ok (.iaload, 1) := by decide +kernel
theorem d_X14_isNamed_59 : decode b_X14_isNamed 59 = .ok (.iload 4, 2) := by decide +kernel
theorem d_X14_isNamed_61 : decode b_X14_isNamed 61 = .ok (.iadd, 1) := by decide +kernel
theorem d_X14_isNamed_62 : decode b_X14_isNamed 62 = .ok (.baload, 1) := by decide +kernel
theorem d_X14_isNamed_63 : decode b_X14_isNamed 63 = .ok (.if_icmp .eq 5, 3) := by decide +kernel
theorem d_X14_isNamed_66 : decode b_X14_isNamed 66 = .ok (.iconst 0, 1) := by decide +kernel
theorem d_X14_isNamed_67 : decode b_X14_isNamed 67 = .ok (.ireturn, 1) := by decide +kernel
theorem d_X14_isNamed_68 : decode b_X14_isNamed 68 = .ok (.iinc 4 1, 3) := by decide +kernel
theorem d_X14_isNamed_71 : decode b_X14_isNamed 71 = .ok (.goto (-42), 3) := by decide +kernel
theorem d_X14_isNamed_74 : decode b_X14_isNamed 74 = .ok (.iconst 1, 1) := by decide +kernel
theorem d_X14_isNamed_75 : decode b_X14_isNamed 75 = .ok (.ireturn, 1) := by decide +kernel
theorem d_X14_isObject_0 : decode b_X14_isObject 0 = .ok (.iload_n 1, 1) := by decide +kernel
theorem d_X14_isObject_1 : decode b_X14_isObject 1 = .ok (.iconst 1, 1) := by decide +kernel
